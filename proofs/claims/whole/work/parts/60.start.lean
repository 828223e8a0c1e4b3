def R_law : String := "BarterIslesLaw"
def lw_P (b : Addr) (xs : List Int32) (args : Array Value) (s : State) : Prop := args = #[.ref b] ∧ s.IntsAt b xs ∧ xs.length ≤ 3072 ∧ (Jvm.Cond.and given_1 narrow_1).before args s = true
def lw_Q (_ : Array Value) (s : State) (o : Outcome) (t : State) : Prop := o = .returned (some (.int 1)) ∧ Framed s o t [] 601024 7293034
def lw_Z (below : List Frame) (a : Array Value) (s : State) : State → Prop := fun t => ∃ o, t.status = .running ∧ Ended t below o ∧ lw_Q a s o t
/-- the law's own end, with 1 on the stack, nothing written that was there before, its room as the claim has it -/
theorem lw_ret {p : Program} {l : Launch} {e : Env} {s : State} {m : MethodId} {below : List Frame} {meth : Method} {c : Code} {b : Nat} (hx : p.tables.exec = Jvm.exec) (hb : c.code = code) (hr : meth.sig.returnType = ret) (hlocks : meth.locks = false) {pc : Nat} {H : Heap} {ls : Array Slot} (hdg : decode code pc = .ok (.ireturn, 1)) : W p l e room_1 s m #[Value.ref b] below meth c H [] 601024 7293034 (lw_Z below #[Value.ref b] s) (F0 m pc ls [.int 1]) := by
  intro T hT X
  obtain ⟨fs, hret, hrun, hended, hW, hframe⟩ := X.leave (v := some (.int 1)) (hlocks := hlocks) (fun h => by rw [hr] at h; cases h)
  have hmeth' : T.vm.method? m = some meth := X.method'
  refine ⟨T.setFrames fs, ?_, .returned (some (.int 1)), hrun, hended, rfl, ⟨_, rfl⟩, hW, hframe⟩
  jvm_step X.here [X.here.top, hx, hb, hdg, hmeth', hr, ret, narrow_b1]
  (try refine ⟨rfl, ?_⟩); (try refine ⟨rfl, ?_⟩)
  first | (intro acts; rw [hret _ acts rfl rfl rfl]) | rw [hret _ _ rfl rfl rfl]
  exact Steps.refl _
/-- what holds at the law's entry: the machine, the code, the tables' words (any of lw_tbl by 'hts w (by decide +kernel)'), the script of L ints xs at the cell b, what the Statement gives of the start (any of its parts by flat_of_before) -/
def lw_At (p : Program) (s : State) (m : MethodId) (meth : Method) (c : Code) (b L : Nat) (xs : Nat → Int32) : Prop :=
  p.tables.exec = Jvm.exec ∧ c.code = code ∧ meth.sig.returnType = ret ∧ c.maxLocals = 7 ∧ s.vm.findClass R_law = some m.cls ∧ (∀ w ∈ lw_tbl, w.before #[Value.ref b] s = true) ∧ va_X b L xs s s.heap ∧ b < s.heap.size ∧ meth.locks = false ∧ (Jvm.Cond.and given_1 narrow_1).before #[Value.ref b] s = true
theorem zs_classes {s : State} {args : Array Value} (hts : ∀ w ∈ zT, w.before args s = true) : ∃ (dC : Nat → ClassId) (dI : Nat → Nat → Nat), ∀ (k : Nat) (q : vw_C), vwCl[k]? = some q → u_Kn s q.1 q.2.1 q.2.2 (dC k) (dI k) := by
  have h0 : ∀ k : Nat, ∃ z : ClassId × (Nat → Nat), ∀ q : vw_C, vwCl[k]? = some q → u_Kn s q.1 q.2.1 q.2.2 z.1 z.2 := by
    intro k
    match k with
    | 0 => obtain ⟨c0, i0, h⟩ := u_known (C := RX0) (T := TX0) (N := 5) (n := 5) hts inX_0 (hts _ (List.contains_iff_mem.mp (by decide +kernel : zT.contains (Cond.instantiable RX0 5) = true))); exact ⟨(c0, i0), fun q hq => by cases hq; exact h⟩
    | 1 => obtain ⟨c0, i0, h⟩ := u_known (C := RX1) (T := TX1) (N := 6) (n := 6) hts inX_1 (hts _ (List.contains_iff_mem.mp (by decide +kernel : zT.contains (Cond.instantiable RX1 6) = true))); exact ⟨(c0, i0), fun q hq => by cases hq; exact h⟩
    | 2 => obtain ⟨c0, i0, h⟩ := u_known (C := RX2) (T := TX2) (N := 3) (n := 3) hts inX_2 (hts _ (List.contains_iff_mem.mp (by decide +kernel : zT.contains (Cond.instantiable RX2 3) = true))); exact ⟨(c0, i0), fun q hq => by cases hq; exact h⟩
    | 3 => obtain ⟨c0, i0, h⟩ := u_known (C := RX3) (T := TX3) (N := 8) (n := 8) hts inX_3 (hts _ (List.contains_iff_mem.mp (by decide +kernel : zT.contains (Cond.instantiable RX3 8) = true))); exact ⟨(c0, i0), fun q hq => by cases hq; exact h⟩
    | 4 => obtain ⟨c0, i0, h⟩ := u_known (C := RX4) (T := TX4) (N := 7) (n := 7) hts inX_4 (hts _ (List.contains_iff_mem.mp (by decide +kernel : zT.contains (Cond.instantiable RX4 7) = true))); exact ⟨(c0, i0), fun q hq => by cases hq; exact h⟩
    | 5 => obtain ⟨c0, i0, h⟩ := u_known (C := RX5) (T := TX5) (N := 11) (n := 11) hts inX_5 (hts _ (List.contains_iff_mem.mp (by decide +kernel : zT.contains (Cond.instantiable RX5 11) = true))); exact ⟨(c0, i0), fun q hq => by cases hq; exact h⟩
    | 6 => obtain ⟨c0, i0, h⟩ := u_known (C := RX6) (T := TX6) (N := 14) (n := 14) hts inX_6 (hts _ (List.contains_iff_mem.mp (by decide +kernel : zT.contains (Cond.instantiable RX6 14) = true))); exact ⟨(c0, i0), fun q hq => by cases hq; exact h⟩
    | 7 => obtain ⟨c0, i0, h⟩ := u_known (C := RX7) (T := TX7) (N := 2) (n := 2) hts inX_7 (hts _ (List.contains_iff_mem.mp (by decide +kernel : zT.contains (Cond.instantiable RX7 2) = true))); exact ⟨(c0, i0), fun q hq => by cases hq; exact h⟩
    | 8 => obtain ⟨c0, i0, h⟩ := u_known (C := RX8) (T := TX8) (N := 9) (n := 9) hts inX_8 (hts _ (List.contains_iff_mem.mp (by decide +kernel : zT.contains (Cond.instantiable RX8 9) = true))); exact ⟨(c0, i0), fun q hq => by cases hq; exact h⟩
    | 9 => obtain ⟨c0, i0, h⟩ := u_known (C := RX9) (T := TX9) (N := 6) (n := 6) hts inX_9 (hts _ (List.contains_iff_mem.mp (by decide +kernel : zT.contains (Cond.instantiable RX9 6) = true))); exact ⟨(c0, i0), fun q hq => by cases hq; exact h⟩
    | 10 => obtain ⟨c0, i0, h⟩ := u_known (C := RX10) (T := TX10) (N := 4) (n := 4) hts inX_10 (hts _ (List.contains_iff_mem.mp (by decide +kernel : zT.contains (Cond.instantiable RX10 4) = true))); exact ⟨(c0, i0), fun q hq => by cases hq; exact h⟩
    | 11 => obtain ⟨c0, i0, h⟩ := u_known (C := RX11) (T := TX11) (N := 16) (n := 16) hts inX_11 (hts _ (List.contains_iff_mem.mp (by decide +kernel : zT.contains (Cond.instantiable RX11 16) = true))); exact ⟨(c0, i0), fun q hq => by cases hq; exact h⟩
    | 12 => obtain ⟨c0, i0, h⟩ := u_known (C := RX12) (T := TX12) (N := 79) (n := 79) hts inX_12 (hts _ (List.contains_iff_mem.mp (by decide +kernel : zT.contains (Cond.instantiable RX12 79) = true))); exact ⟨(c0, i0), fun q hq => by cases hq; exact h⟩
    | k + 13 => exact ⟨(0, fun _ => 0), fun q hq => by simp [vwCl] at hq⟩
  obtain ⟨z, hz⟩ := Classical.axiomOfChoice h0
  exact ⟨fun k => (z k).1, fun k => (z k).2, fun k q hq => hz k q hq⟩
theorem zs_arr {s : State} {args : Array Value} {ty : FieldType} (harr : (Cond.arrayClass ty).before args s = true) : ∃ cA : ClassId, ArrOfT s cA ty ∧ s.vm.findClass ("[" ++ ty.toString) = some cA := by
  obtain ⟨cA, kA, comp, hfind, hk, hkind⟩ := Cond.arrayClass_spec harr
  exact ⟨cA, fun n z => ⟨fun k h => (by cases h), kA, hk, comp, hkind⟩, hfind⟩
def ztm (i : Nat) : Term := match zSR[i]? with
  | some q => .string q.1 q.2.1
  | none => .string "" 0
abbrev zfl : List Cond := flatC (Jvm.Cond.and given_1 narrow_1)
theorem zq_ex : ∀ i, i < zNS → Cond.exactly (ztm i) "java/lang/String" ∈ zfl := by decide +kernel
theorem zq_co : ∀ i, i < zNS → Cond.eq (.field (ztm i) "java/lang/String" "coder" "B") (.int 0) ∈ zfl := by decide +kernel
theorem zq_ar : ∀ i, i < zNS → Cond.arrayOf (.field (ztm i) "java/lang/String" "value" "[B") .byte ∈ zfl := by decide +kernel
theorem zq_le : ∀ i, i < zNS → Cond.eq (.length (.field (ztm i) "java/lang/String" "value" "[B")) (.int (Int32.ofNat (zsl.getD i 0))) ∈ zfl := by decide +kernel
theorem zq_el0 : ∀ j, j < 24 → zfl[43 + j]? = some (Cond.eq (.elem (.field (ztm 0) "java/lang/String" "value" "[B") (.int (Int32.ofNat j))) (.int ((zsb.getD 0 []).getD j 0))) := by decide +kernel
theorem zq_el1 : ∀ j, j < 9 → zfl[71 + j]? = some (Cond.eq (.elem (.field (ztm 1) "java/lang/String" "value" "[B") (.int (Int32.ofNat j))) (.int ((zsb.getD 1 []).getD j 0))) := by decide +kernel
theorem zq_el2 : ∀ j, j < 4 → zfl[84 + j]? = some (Cond.eq (.elem (.field (ztm 2) "java/lang/String" "value" "[B") (.int (Int32.ofNat j))) (.int ((zsb.getD 2 []).getD j 0))) := by decide +kernel
theorem zq_el3 : ∀ j, j < 6 → zfl[92 + j]? = some (Cond.eq (.elem (.field (ztm 3) "java/lang/String" "value" "[B") (.int (Int32.ofNat j))) (.int ((zsb.getD 3 []).getD j 0))) := by decide +kernel
theorem zq_el4 : ∀ j, j < 5 → zfl[102 + j]? = some (Cond.eq (.elem (.field (ztm 4) "java/lang/String" "value" "[B") (.int (Int32.ofNat j))) (.int ((zsb.getD 4 []).getD j 0))) := by decide +kernel
theorem zq_el5 : ∀ j, j < 4 → zfl[111 + j]? = some (Cond.eq (.elem (.field (ztm 5) "java/lang/String" "value" "[B") (.int (Int32.ofNat j))) (.int ((zsb.getD 5 []).getD j 0))) := by decide +kernel
theorem zq_el6 : ∀ j, j < 4 → zfl[119 + j]? = some (Cond.eq (.elem (.field (ztm 6) "java/lang/String" "value" "[B") (.int (Int32.ofNat j))) (.int ((zsb.getD 6 []).getD j 0))) := by decide +kernel
theorem zq_el7 : ∀ j, j < 5 → zfl[127 + j]? = some (Cond.eq (.elem (.field (ztm 7) "java/lang/String" "value" "[B") (.int (Int32.ofNat j))) (.int ((zsb.getD 7 []).getD j 0))) := by decide +kernel
theorem zq_el8 : ∀ j, j < 3 → zfl[136 + j]? = some (Cond.eq (.elem (.field (ztm 8) "java/lang/String" "value" "[B") (.int (Int32.ofNat j))) (.int ((zsb.getD 8 []).getD j 0))) := by decide +kernel
theorem zq_el9 : ∀ j, j < 3 → zfl[143 + j]? = some (Cond.eq (.elem (.field (ztm 9) "java/lang/String" "value" "[B") (.int (Int32.ofNat j))) (.int ((zsb.getD 9 []).getD j 0))) := by decide +kernel
theorem zq_el10 : ∀ j, j < 4 → zfl[150 + j]? = some (Cond.eq (.elem (.field (ztm 10) "java/lang/String" "value" "[B") (.int (Int32.ofNat j))) (.int ((zsb.getD 10 []).getD j 0))) := by decide +kernel
theorem zq_el11 : ∀ j, j < 5 → zfl[158 + j]? = some (Cond.eq (.elem (.field (ztm 11) "java/lang/String" "value" "[B") (.int (Int32.ofNat j))) (.int ((zsb.getD 11 []).getD j 0))) := by decide +kernel
theorem zq_el12 : ∀ j, j < 3 → zfl[167 + j]? = some (Cond.eq (.elem (.field (ztm 12) "java/lang/String" "value" "[B") (.int (Int32.ofNat j))) (.int ((zsb.getD 12 []).getD j 0))) := by decide +kernel
theorem zq_el13 : ∀ j, j < 4 → zfl[174 + j]? = some (Cond.eq (.elem (.field (ztm 13) "java/lang/String" "value" "[B") (.int (Int32.ofNat j))) (.int ((zsb.getD 13 []).getD j 0))) := by decide +kernel
theorem zq_el14 : ∀ j, j < 5 → zfl[182 + j]? = some (Cond.eq (.elem (.field (ztm 14) "java/lang/String" "value" "[B") (.int (Int32.ofNat j))) (.int ((zsb.getD 14 []).getD j 0))) := by decide +kernel
theorem zq_el15 : ∀ j, j < 4 → zfl[191 + j]? = some (Cond.eq (.elem (.field (ztm 15) "java/lang/String" "value" "[B") (.int (Int32.ofNat j))) (.int ((zsb.getD 15 []).getD j 0))) := by decide +kernel
theorem zq_el16 : ∀ j, j < 4 → zfl[199 + j]? = some (Cond.eq (.elem (.field (ztm 16) "java/lang/String" "value" "[B") (.int (Int32.ofNat j))) (.int ((zsb.getD 16 []).getD j 0))) := by decide +kernel
theorem zq_el17 : ∀ j, j < 3 → zfl[207 + j]? = some (Cond.eq (.elem (.field (ztm 17) "java/lang/String" "value" "[B") (.int (Int32.ofNat j))) (.int ((zsb.getD 17 []).getD j 0))) := by decide +kernel
theorem zq_el18 : ∀ j, j < 2 → zfl[214 + j]? = some (Cond.eq (.elem (.field (ztm 18) "java/lang/String" "value" "[B") (.int (Int32.ofNat j))) (.int ((zsb.getD 18 []).getD j 0))) := by decide +kernel
theorem zq_el19 : ∀ j, j < 13 → zfl[220 + j]? = some (Cond.eq (.elem (.field (ztm 19) "java/lang/String" "value" "[B") (.int (Int32.ofNat j))) (.int ((zsb.getD 19 []).getD j 0))) := by decide +kernel
theorem zq_el20 : ∀ j, j < 12 → zfl[237 + j]? = some (Cond.eq (.elem (.field (ztm 20) "java/lang/String" "value" "[B") (.int (Int32.ofNat j))) (.int ((zsb.getD 20 []).getD j 0))) := by decide +kernel
theorem zq_el21 : ∀ j, j < 24 → zfl[253 + j]? = some (Cond.eq (.elem (.field (ztm 21) "java/lang/String" "value" "[B") (.int (Int32.ofNat j))) (.int ((zsb.getD 21 []).getD j 0))) := by decide +kernel
theorem zq_el22 : ∀ j, j < 13 → zfl[281 + j]? = some (Cond.eq (.elem (.field (ztm 22) "java/lang/String" "value" "[B") (.int (Int32.ofNat j))) (.int ((zsb.getD 22 []).getD j 0))) := by decide +kernel
theorem zq_el23 : ∀ j, j < 12 → zfl[298 + j]? = some (Cond.eq (.elem (.field (ztm 23) "java/lang/String" "value" "[B") (.int (Int32.ofNat j))) (.int ((zsb.getD 23 []).getD j 0))) := by decide +kernel
theorem zq_el24 : ∀ j, j < 12 → zfl[314 + j]? = some (Cond.eq (.elem (.field (ztm 24) "java/lang/String" "value" "[B") (.int (Int32.ofNat j))) (.int ((zsb.getD 24 []).getD j 0))) := by decide +kernel
theorem zq_el25 : ∀ j, j < 26 → zfl[330 + j]? = some (Cond.eq (.elem (.field (ztm 25) "java/lang/String" "value" "[B") (.int (Int32.ofNat j))) (.int ((zsb.getD 25 []).getD j 0))) := by decide +kernel
theorem zq_el26 : ∀ j, j < 24 → zfl[360 + j]? = some (Cond.eq (.elem (.field (ztm 26) "java/lang/String" "value" "[B") (.int (Int32.ofNat j))) (.int ((zsb.getD 26 []).getD j 0))) := by decide +kernel
theorem zq_el27 : ∀ j, j < 27 → zfl[388 + j]? = some (Cond.eq (.elem (.field (ztm 27) "java/lang/String" "value" "[B") (.int (Int32.ofNat j))) (.int ((zsb.getD 27 []).getD j 0))) := by decide +kernel
theorem zq_el28 : ∀ j, j < 33 → zfl[419 + j]? = some (Cond.eq (.elem (.field (ztm 28) "java/lang/String" "value" "[B") (.int (Int32.ofNat j))) (.int ((zsb.getD 28 []).getD j 0))) := by decide +kernel
theorem zq_el29 : ∀ j, j < 20 → zfl[456 + j]? = some (Cond.eq (.elem (.field (ztm 29) "java/lang/String" "value" "[B") (.int (Int32.ofNat j))) (.int ((zsb.getD 29 []).getD j 0))) := by decide +kernel
theorem zq_el30 : ∀ j, j < 10 → zfl[480 + j]? = some (Cond.eq (.elem (.field (ztm 30) "java/lang/String" "value" "[B") (.int (Int32.ofNat j))) (.int ((zsb.getD 30 []).getD j 0))) := by decide +kernel
theorem zq_el : ∀ i, i < zNS → ∀ j, j < zsl.getD i 0 → Cond.eq (.elem (.field (ztm i) "java/lang/String" "value" "[B") (.int (Int32.ofNat j))) (.int ((zsb.getD i []).getD j 0)) ∈ zfl := by
  intro i hi
  match i, hi with
  | 0, _ => exact fun j hj => List.mem_of_getElem? (zq_el0 j hj)
  | 1, _ => exact fun j hj => List.mem_of_getElem? (zq_el1 j hj)
  | 2, _ => exact fun j hj => List.mem_of_getElem? (zq_el2 j hj)
  | 3, _ => exact fun j hj => List.mem_of_getElem? (zq_el3 j hj)
  | 4, _ => exact fun j hj => List.mem_of_getElem? (zq_el4 j hj)
  | 5, _ => exact fun j hj => List.mem_of_getElem? (zq_el5 j hj)
  | 6, _ => exact fun j hj => List.mem_of_getElem? (zq_el6 j hj)
  | 7, _ => exact fun j hj => List.mem_of_getElem? (zq_el7 j hj)
  | 8, _ => exact fun j hj => List.mem_of_getElem? (zq_el8 j hj)
  | 9, _ => exact fun j hj => List.mem_of_getElem? (zq_el9 j hj)
  | 10, _ => exact fun j hj => List.mem_of_getElem? (zq_el10 j hj)
  | 11, _ => exact fun j hj => List.mem_of_getElem? (zq_el11 j hj)
  | 12, _ => exact fun j hj => List.mem_of_getElem? (zq_el12 j hj)
  | 13, _ => exact fun j hj => List.mem_of_getElem? (zq_el13 j hj)
  | 14, _ => exact fun j hj => List.mem_of_getElem? (zq_el14 j hj)
  | 15, _ => exact fun j hj => List.mem_of_getElem? (zq_el15 j hj)
  | 16, _ => exact fun j hj => List.mem_of_getElem? (zq_el16 j hj)
  | 17, _ => exact fun j hj => List.mem_of_getElem? (zq_el17 j hj)
  | 18, _ => exact fun j hj => List.mem_of_getElem? (zq_el18 j hj)
  | 19, _ => exact fun j hj => List.mem_of_getElem? (zq_el19 j hj)
  | 20, _ => exact fun j hj => List.mem_of_getElem? (zq_el20 j hj)
  | 21, _ => exact fun j hj => List.mem_of_getElem? (zq_el21 j hj)
  | 22, _ => exact fun j hj => List.mem_of_getElem? (zq_el22 j hj)
  | 23, _ => exact fun j hj => List.mem_of_getElem? (zq_el23 j hj)
  | 24, _ => exact fun j hj => List.mem_of_getElem? (zq_el24 j hj)
  | 25, _ => exact fun j hj => List.mem_of_getElem? (zq_el25 j hj)
  | 26, _ => exact fun j hj => List.mem_of_getElem? (zq_el26 j hj)
  | 27, _ => exact fun j hj => List.mem_of_getElem? (zq_el27 j hj)
  | 28, _ => exact fun j hj => List.mem_of_getElem? (zq_el28 j hj)
  | 29, _ => exact fun j hj => List.mem_of_getElem? (zq_el29 j hj)
  | 30, _ => exact fun j hj => List.mem_of_getElem? (zq_el30 j hj)
  | n + 31, h => exact absurd h (by unfold zNS; omega)
theorem zq_n : ∀ i, i < zNS → zsl.getD i 0 < 2 ^ 31 := by decide +kernel
theorem zq_sr : ∀ q ∈ zSR, zSR[q.2.2.2]? = some q ∧ q.2.2.2 < zNS := by decide +kernel
theorem zq_sw : ∀ q ∈ zSR, Cond.stringRef q.1 q.2.1 q.2.2.1 ∈ lw_tbl := by decide +kernel
theorem zq_cs : ∀ q ∈ zCst, Cond.castable q.1 q.2 ∈ lw_tbl := by decide +kernel
theorem zq_dc : ∀ q ∈ zDcl, Cond.declares q ∈ lw_tbl := by decide +kernel
theorem zq_nc : ∀ q ∈ zNcs, Cond.not (.castable q.1 q.2) ∈ zfl := by decide +kernel
theorem zq_ns : ∀ q ∈ zNl, Cond.methodLinkNest q.1 q.2.1 q.2.2 "BarterIsles" ∈ lw_tbl := by decide +kernel
theorem zs_texts {s : State} {args : Array Value} {A : Nat → Prop} (hs : ∀ c ∈ zfl, c.before args s = true) (hA : ∀ a : Nat, a < s.heap.size → ¬ A a) : ∃ adK adV : Nat → Nat, zSs adK adV A s s.heap ∧ ∀ i : Nat, i < zNS → (ztm i).eval args s none [] s = some (.ref (adK i)) := by
  have h0 : ∀ i : Nat, ∃ q : Nat × Nat, i < zNS → (ztm i).eval args s none [] s = some (.ref q.1) ∧ va_O "java/lang/String" q.1 A s s.heap ∧ va_OF "java/lang/String" "coder" "B" (.int 0) q.1 A s s.heap ∧ va_OF "java/lang/String" "value" "[B" (.ref q.2) q.1 A s s.heap ∧ va_T .byte q.2 (zsl.getD i 0) (fun j => .int ((zsb.getD i []).getD j 0)) A s s.heap := by
    intro i
    by_cases hi : i < zNS
    · obtain ⟨a, c, cA, kA, q1, q2, q3, q4, q5, q6, -⟩ := Cond.exactly_spec (args := args) (first := s) (o := none) (s := s) (idx := []) (t := ztm i) (cls := "java/lang/String") (hs _ (zq_ex i hi))
      obtain ⟨t, ht, hT⟩ := va_Tof (f := fun j => .int ((zsb.getD i []).getD j 0)) (A := A) (zq_n i hi) (hs _ (zq_ar i hi)) (va_eqt (hs _ (zq_le i hi))) (fun j hj => va_eqt (hs _ (zq_el i hi j hj))) hA
      exact ⟨(a, t), fun _ => ⟨q1, ⟨cA, q3, q5, by rw [q6]; exact q2, hA a (Array.getElem?_eq_some_iff.mp q3).1⟩, vk_OFof q1 (va_eqt (hs _ (zq_co i hi))) hA, vk_OFof q1 ht hA, hT⟩⟩
    · exact ⟨(0, 0), fun h => absurd h hi⟩
  obtain ⟨ad, had⟩ := Classical.axiomOfChoice h0
  exact ⟨fun i => (ad i).1, fun i => (ad i).2, ⟨fun i hi => (had i hi).2, trivial⟩, fun i hi => (had i hi).1⟩
theorem zcell_long (cA : ClassId) : vp_cell cA (1, if 23 = 23 then .inr (.inl (fun _ => zmk 0 0)) else .inl (fun _ => 0)) = arrV cA 1 (fun _ => defaultValue .long) := by
  have e9 : zmk 0 0 = 0 := by decide
  rw [if_pos rfl, e9]
  rfl
/-- the store behind the constructors -/
def zMi : zM := MX_X12_init_79 (MX_X11_init_0 (fun _ _ => 0))
def zFi : zF2 := FX_X12_init_79 (FX_X11_init_0 (fun _ _ => none))
theorem zFi_gr : ∀ i, i < 125 → ∀ k, k < znf (zsh i) → zfk (zsh i) k = 1 → zFi i k = some (zgr i k) := by decide +kernel
theorem zwn_zws (G : zG) (M : zM) : zwn G 125 M zFi = zws G M := by
  unfold zwn zws
  refine List.map_congr_left (fun i hi => ?_)
  have hi : i < 125 := List.mem_range.mp hi
  have e : zcn G (M i) (zFi i) i = zce G (M i) i := by
    unfold zcn zce
    by_cases h : zsh i < 13
    · rw [if_pos h, if_pos h]
      congr 2
      refine List.map_congr_left (fun k hk => ?_)
      have hk : k < znf (zsh i) := List.mem_range.mp hk
      unfold zfn zfv
      by_cases h0 : zfk (zsh i) k = 0
      · rw [if_pos h0, if_pos h0]
      · by_cases h1 : zfk (zsh i) k = 1
        · rw [if_neg h0, if_pos h1, if_neg h0, if_pos h1, zFi_gr i hi k hk h1]
        · rw [if_neg h0, if_neg h1, if_neg h0, if_neg h1]
    · rw [if_neg h, if_neg h]
  rw [e]
/-- THE PURE CLAIM: the law's loop, from the store that the constructors leave, answers 1 -/
def zPure : Prop := ∀ (L : Nat) (xs : Nat → Int32), L ≤ 3072 → ∀ G : zG, G.2.2.2.2.2.2 = (L, xs) → ∃ M' : zM, F_L_law G 513 0 zMi = some (.inl (some (.int 1)), M')
/-- the law's loop in the law's own room -/
theorem zlaw_in {p : Program} {l : Launch} {e : Env} {s : State} {m : MethodId} {b : Nat} {below : List Frame} {meth : Method} {c : Code} {H : Heap} {locs : List Loc} {cells slots : Nat} {ls : Array Slot} {G : zG} {M M' : zM} (hl : l.stackTraces = false) (hpure : F_L_law G 513 0 M = some (.inl (some (.int 1)), M'))
    (hG : s.heap.size ≤ G.2.1) (hgs : G.2.2.2.2.2.1 = b) (C : zCx G Y_L_law p s m #[Value.ref b] meth c) (hP : va_P G.1 vwCl (zws G M) H) (hS : va_S (zA G) s.heap H locs) (hlv : lv_has ls 7 [(0, .ref G.2.2.2.2.2.1), (1, .ref (G.2.1 + 0)), (2, .ref (G.2.1 + 79)), (3, .ref (G.2.1 + 124)), (4, .int 0)]) (hc : cells + 2100 ≤ 601024) (hs : slots + 12600 ≤ 7293034) :
    W p l e room_1 s m #[Value.ref b] below meth c H locs cells slots (lw_Z below #[Value.ref b] s) (F0 m 23 ls []) := by
  intro T hT X
  have Q := vx_rebase X (R' := zRm 200 2100) (by decide) (by decide) hc hs
  obtain ⟨s', hA⟩ : ∃ z, z = (T.setVm s.vm).setFrames (.invoking m #[Value.ref b] :: below) := ⟨_, rfl⟩
  rw [← hA] at Q
  have hvm : s'.vm = s.vm := by rw [hA]; rfl
  have hhp : s'.heap = H := by rw [hA]; exact hT
  have hW0 : s.WarmedH s'.vm := by rw [hvm]; exact State.WarmedH.refl s
  have C' : zCx G Y_L_law p s' m #[Value.ref b] meth c := ⟨C.1, C.2.1, C.2.2.1, C.2.2.2.1, by rw [hvm]; exact C.2.2.2.2.1, fun w hw => word_at hW0 (good_of_word (zT_good hw)) (C.2.2.2.2.2.1 w hw), C.2.2.2.2.2.2.1, va_K.moved hW0.alike C.2.2.2.2.2.2.2.1, zX_next C.2.2.2.2.2.2.2.2.1 hS hW0 hhp, C.2.2.2.2.2.2.2.2.2⟩
  obtain ⟨t, a1, o, b1, b2, b3⟩ := ct_L_law l hl G 513 0 (by decide) 0 M (.inl (some (.int 1))) M' hpure p e s' m #[Value.ref b] below meth c H [] ls C' hP (by rw [hhp]; exact va_S.rf) hlv T hT Q
  refine ⟨t, a1, o, b1, b2, ?_⟩
  rcases b3 with ⟨⟨⟨v, hv1, hv2, -⟩, -⟩, Lf, ⟨hF1, hF2, hF3⟩, hLf⟩ | ⟨q, -, E, ce, Lf, ⟨hr, -⟩, -⟩
  · cases hv1
    refine ⟨hv2, hF1, State.WarmedH.trans hW0 hF2, ?_⟩
    subst hA
    obtain ⟨e1, e2⟩ := hF3
    rw [State.setFrames_setFrames] at e1
    have h2 : (T.setVm s.vm).sameButNew ({ t with vm := s.vm } : State) Lf 2100 12600 := ⟨e1, e2⟩
    have h3 := X.same.trans h2
    refine h3.weaken (fun y hy hlt => ?_) hc hs
    have hge : G.2.1 ≤ y.base := by
      rcases List.mem_append.mp hy with h | h
      · exact hS.2.2 y h
      · exact hLf y h
    exact absurd (Nat.lt_of_lt_of_le hlt (Nat.le_trans hG hge)) (Nat.lt_irrefl _)
  · cases hr
set_option maxHeartbeats 4000000 in
set_option maxRecDepth 100000 in
theorem whole_start {p : Program} {e : Env} {s : State} {m : MethodId} {below : List Frame} {meth : Method} {c : Code} (hpure : zPure) (l : Launch) (hflags : l.flags = flags0) {b L : Nat} {xs : Nat → Int32} (hL : L ≤ 3072) (C0 : lw_At p s m meth c b L xs) (htab : c.exceptionTable.toList = []) : W p l e room_1 s m #[Value.ref b] below meth c s.heap [] 0 0 (lw_Z below #[Value.ref b] s) (entryFrame m ([Value.ref b] : List Value).toArray 7) := by
  obtain ⟨hx, hb, hr, hml, hown, hts0, hX, hbl, hlocks, hgv⟩ := id C0
  have hst : l.stackTraces = false := by unfold Launch.stackTraces; rw [hflags]; decide
  have hts : ∀ w ∈ zT, w.before #[Value.ref b] s = true := fun w hw => hts0 w (zT_in hw)
  have hs := flat_of_before _ hgv
  obtain ⟨dC, dI, hKc⟩ := zs_classes hts
  obtain ⟨cI, hI1, hI2⟩ := zs_arr (hts _ na_int)
  obtain ⟨cB, hB1, hB2⟩ := zs_arr (hts _ na_byte)
  obtain ⟨cZ, hZ1, hZ2⟩ := zs_arr (hts _ na_boolean)
  obtain ⟨cJ, hJ1, hJ2⟩ := zs_arr (ty := .long) (hts _ (List.contains_iff_mem.mp (by decide +kernel)))
  have hAn : ∀ a : Nat, a < s.heap.size → ¬ (fun q : Nat => s.heap.size ≤ q) a := fun a h => Nat.not_le.mpr h
  obtain ⟨adK, adV, hSs, hev⟩ := zs_texts (A := fun q : Nat => s.heap.size ≤ q) hs hAn
  obtain ⟨G, hG⟩ : ∃ G : zG, G = ((dC, dI), s.heap.size, (fun k => if k = 20 then cI else if k = 21 then cB else if k = 22 then cZ else cJ), adK, adV, (b, L, xs)) := ⟨_, rfl⟩
  obtain ⟨M', hM'⟩ := hpure L xs hL G (by rw [hG])
  have hK : va_K G.1 vwCl (ztys G) s := by
    subst hG
    refine ⟨hKc, fun k q hq => ?_⟩
    match k, hq with
    | 0, hq => cases hq; exact ⟨hI1, hI2⟩
    | 1, hq => cases hq; exact ⟨hB1, hB2⟩
    | 2, hq => cases hq; exact ⟨hZ1, hZ2⟩
    | 3, hq => cases hq; exact ⟨hJ1, hJ2⟩
    | k + 4, hq => simp [ztys] at hq
  have hZX : zX G s s.heap := by
    subst hG
    refine ⟨vx_Zqof (hts0 _ (by decide +kernel)) (hts0 _ (by decide +kernel)) (hs _ (by decide +kernel)) hAn, vx_Zqof (hts0 _ (by decide +kernel)) (hts0 _ (by decide +kernel)) (hs _ (by decide +kernel)) hAn, hSs, fun q hq => ?_, va_Zof (hts0 _ (by decide +kernel)) (hts0 _ (by decide +kernel)) (va_eqt (hs _ (by decide +kernel))) hAn, va_Zqof (hts0 _ (by decide +kernel)) (hts0 _ (by decide +kernel)) (hs _ (by decide +kernel)) hAn, ⟨fun q hq => va_Nw.of rfl (hts0 _ (zq_cs q hq)), fun q hq => va_Nw.of rfl (hts0 _ (zq_dc q hq)), fun q hq => va_Nc.of (hs _ (zq_nc q hq))⟩, hX, hbl, hbl⟩
    obtain ⟨z1, z2⟩ := zq_sr q hq
    have h2 := hev q.2.2.2 z2
    have h3 : ztm q.2.2.2 = .string q.1 q.2.1 := by unfold ztm; rw [z1]
    rw [h3] at h2
    exact vk_R.of (A := #[Value.ref b]) (hts0 _ (zq_sw q hq)) h2
  have hNs : zNs s := fun q hq => va_Nw.of rfl (hts0 _ (zq_ns q hq))
  have hbase : G.2.1 = s.heap.size := by rw [hG]
  have C : zCn G Y_L_law p s m #[Value.ref b] meth c := ⟨hx, hb, hr, hml, hown, hts, hlocks, hK, hNs, by rw [hbase]; exact Nat.le_refl _⟩
  have hgs : G.2.2.2.2.2.1 = b := by rw [hG]
  have hsz : s.heap.size = G.2.1 + 0 := by rw [hbase]; rfl
  have hP : va_P G.1 vwCl (zwn G 0 (fun _ _ => 0) (fun _ _ => none)) s.heap := fun k q h => by simp [zwn] at h
  have hS : va_S (zA G) s.heap s.heap [] := va_S.rf
  have hM : zfrM 0 (fun _ _ => 0) := fun _ _ => rfl
  have hF : zfrF 0 (fun _ _ => none) := fun _ _ => rfl
  have hl := lv_entry ([.ref b]) (n := 7) (Nat.le_of_ble_eq_true rfl)
  rw [lg_entry_eq]
  generalize (lg_sl ([.ref b]) ++ List.replicate (7 - (lg_sl ([.ref b])).length) Slot.unset).toArray = ls at hl ⊢
  have hl : lv_has ls 7 [(0, .ref b)] := hl
  refine en_new (ci := 11) tyX11 C hsz hP hS hM hF rfl inX_11 tyX11_ok (List.contains_iff_mem.mp (by decide +kernel)) (List.contains_iff_mem.mp (by decide +kernel)) (List.contains_iff_mem.mp (by decide +kernel)) (by decide +kernel) (by decide) (by decide +kernel) (df_11 _) (Nat.le_of_ble_eq_true rfl) (Nat.le_of_ble_eq_true rfl) (idx := 8) (by decide +kernel) (fun H hsz hP hS => ?_)
  have hM : zfrM 1 (fun _ _ => 0) := fun _ _ => rfl
  have hF : zfrF 1 (fun _ _ => none) := fun _ _ => rfl
  refine lv_dup C.1 C.2.1 (by decide +kernel) rfl ?_
  refine en_callI (As := []) (n := 0) (idx := 102) (Y' := Y_X11_init) C hsz hP hS hl.1 (cn_X11_init_0 l G _ _ hM hF) ⟨⟨by decide +kernel, by decide +kernel⟩, by decide, List.contains_iff_mem.mp (by decide +kernel), List.contains_iff_mem.mp (by decide +kernel)⟩ rfl rfl (List.contains_iff_mem.mp (by decide +kernel)) (List.contains_iff_mem.mp (by decide +kernel)) (by decide +kernel) ⟨by decide, by decide⟩ ⟨Nat.le_of_ble_eq_true rfl, Nat.le_of_ble_eq_true rfl⟩ (Nat.le_of_ble_eq_true rfl) rfl (by decide +kernel) rfl (fun H locs hsz hP hS => ?_)
  have hM := frM_X11_init_0 hM
  have hF := frF_X11_init_0 hF
  refine lv_astore_n (lv' := [(1, .ref (G.2.1 + 0)), (0, .ref b)]) C.1 C.2.1 (k := 1) (by decide +kernel) rfl hl (by decide) rfl (fun ls hl => ?_)
  refine en_new (ci := 12) tyX12 C hsz hP hS hM hF rfl inX_12 tyX12_ok (List.contains_iff_mem.mp (by decide +kernel)) (List.contains_iff_mem.mp (by decide +kernel)) (List.contains_iff_mem.mp (by decide +kernel)) (by decide +kernel) (by decide) (by decide +kernel) (df_12 _) (Nat.le_of_ble_eq_true rfl) (Nat.le_of_ble_eq_true rfl) (idx := 103) (by decide +kernel) (fun H hsz hP hS => ?_)
  have hM := zfrM_le (k' := 80) hM (by decide)
  have hF := zfrF_le (k' := 80) hF (by decide)
  refine lv_dup C.1 C.2.1 (by decide +kernel) rfl ?_
  refine en_callI (As := []) (n := 0) (idx := 105) (Y' := Y_X12_init) C hsz hP hS hl.1 (cn_X12_init_79 l G _ _ hM hF) ⟨⟨by decide +kernel, by decide +kernel⟩, by decide, List.contains_iff_mem.mp (by decide +kernel), List.contains_iff_mem.mp (by decide +kernel)⟩ rfl rfl (List.contains_iff_mem.mp (by decide +kernel)) (List.contains_iff_mem.mp (by decide +kernel)) (by decide +kernel) ⟨by decide, by decide⟩ ⟨Nat.le_of_ble_eq_true rfl, Nat.le_of_ble_eq_true rfl⟩ (Nat.le_of_ble_eq_true rfl) rfl (by decide +kernel) rfl (fun H locs hsz hP hS => ?_)
  have hM := frM_X12_init_79 hM
  have hF := frF_X12_init_79 hF
  refine lv_astore_n (lv' := [(2, .ref (G.2.1 + 79)), (1, .ref (G.2.1 + 0)), (0, .ref b)]) C.1 C.2.1 (k := 2) (by decide +kernel) rfl hl (by decide) rfl (fun ls hl => ?_)
  refine lv_iconst (n := 1) (v := 1) C.1 C.2.1 (by decide +kernel) (by decide) ?_
  refine en_newa (sh := 23) (N := 1) (ty := .long) (atype := .long) C hsz hP hS hM rfl (List.contains_iff_mem.mp (by decide +kernel)) (by decide +kernel) (by decide +kernel) (by decide) rfl ⟨3, rfl⟩ (fun h => h) (fun cA => zcell_long cA) (by decide) (by decide) (Nat.le_of_ble_eq_true rfl) (Nat.le_of_ble_eq_true rfl) (Nat.le_of_ble_eq_true rfl) (by decide +kernel) (fun H hsz hP hS => ?_)
  refine lv_astore_n (lv' := [(3, .ref (G.2.1 + 124)), (2, .ref (G.2.1 + 79)), (1, .ref (G.2.1 + 0)), (0, .ref b)]) C.1 C.2.1 (k := 3) (by decide +kernel) rfl hl (by decide) rfl (fun ls hl => ?_)
  refine lv_iconst (n := 0) (v := 0) C.1 C.2.1 (by decide +kernel) (by decide) ?_
  refine lv_istore (lv' := [(4, .int 0), (3, .ref (G.2.1 + 124)), (2, .ref (G.2.1 + 79)), (1, .ref (G.2.1 + 0)), (0, .ref b)]) C.1 C.2.1 (by decide +kernel) hl (by decide) rfl (fun ls hl => ?_)
  have hP : va_P G.1 vwCl (zws G zMi) H := by
    rw [← zwn_zws]
    exact hP
  have hl := lv_sub (l' := [(0, .ref b), (1, .ref (G.2.1 + 0)), (2, .ref (G.2.1 + 79)), (3, .ref (G.2.1 + 124)), (4, .int 0)]) hl [4, 3, 2, 1, 0] rfl
  exact zlaw_in hst hM' (by rw [hbase]; exact Nat.le_refl _) hgs ⟨hx, hb, hr, hml, hown, hts, hlocks, hK, hZX, by rw [htab]; rfl⟩ hP hS (by rw [hgs]; exact hl) (Nat.le_of_ble_eq_true rfl) (Nat.le_of_ble_eq_true rfl)
