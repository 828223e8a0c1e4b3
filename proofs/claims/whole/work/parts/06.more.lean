/-! Math, switches, throws -/
section ZM
variable {l : Launch} {G : zG} {Y : zY} {d u pc : Nat} {lv : List (Nat × Value)} {st : List Value} {M : zM} {X : zO}
def zMw (own : String) (idx n : Nat) (y : MethodName) (code : ByteArray) : Prop := Cond.methodLink own idx y ∈ zT ∧ Cond.static y ∈ zT ∧ Cond.initialized "java/lang/Math" ∈ zT ∧ Cond.code y code n (some .int) ∈ zT
theorem ev_mmax {idx : Nat} {x y : Int32} (hw : zMw Y.1.cls idx 2 Lib.Math.max.name Lib.Math.max.code) (hd : decode Y.2.1 pc = .ok (.invokestatic idx, 3)) (hst : (st.map fun v => v.category).sum ≤ 8) (hu : u ≤ Y.2.2.2.2.1) (kk : zEv l G Y d u (pc + 3) lv (.int (if x < y then y else x) :: st) M X) : zEv l G Y d u pc lv (.int y :: .int x :: st) M X := by
  intro r M' hX p e s m args below meth c H locs ls C hP hS hl
  have hRf : 1 ≤ (zRm d Y.2.2.2.2.1).frames := by show 1 ≤ d + 16; omega
  have hRl : (st.map fun v => v.category).sum + 13 ≤ (zRm d Y.2.2.2.2.1).locals := by show _ + _ ≤ 64 * d + 256; omega
  have hRs : 6 * u ≤ (zRm d Y.2.2.2.2.1).slots := by show 6 * u ≤ 6 * Y.2.2.2.2.1; omega
  exact va_mmax C.1 C.2.1 (C.2.2.2.1.trans hl.1.symm) C.2.2.2.2.1 (C.2.2.2.2.2.1 _ hw.1) (C.2.2.2.2.2.1 _ hw.2.1) (C.2.2.2.2.2.1 _ hw.2.2.1) (C.2.2.2.2.2.1 _ hw.2.2.2) hRf hRl hu hRs hd (kk r M' hX p e s m args below meth c H locs ls C hP hS hl)
theorem ev_mmin {idx : Nat} {x y : Int32} (hw : zMw Y.1.cls idx 2 Lib.Math.min.name Lib.Math.min.code) (hd : decode Y.2.1 pc = .ok (.invokestatic idx, 3)) (hst : (st.map fun v => v.category).sum ≤ 8) (hu : u ≤ Y.2.2.2.2.1) (kk : zEv l G Y d u (pc + 3) lv (.int (if y < x then y else x) :: st) M X) : zEv l G Y d u pc lv (.int y :: .int x :: st) M X := by
  intro r M' hX p e s m args below meth c H locs ls C hP hS hl
  have hRf : 1 ≤ (zRm d Y.2.2.2.2.1).frames := by show 1 ≤ d + 16; omega
  have hRl : (st.map fun v => v.category).sum + 13 ≤ (zRm d Y.2.2.2.2.1).locals := by show _ + _ ≤ 64 * d + 256; omega
  have hRs : 6 * u ≤ (zRm d Y.2.2.2.2.1).slots := by show 6 * u ≤ 6 * Y.2.2.2.2.1; omega
  exact va_mmin C.1 C.2.1 (C.2.2.2.1.trans hl.1.symm) C.2.2.2.2.1 (C.2.2.2.2.2.1 _ hw.1) (C.2.2.2.2.2.1 _ hw.2.1) (C.2.2.2.2.2.1 _ hw.2.2.1) (C.2.2.2.2.2.1 _ hw.2.2.2) hRf hRl hu hRs hd (kk r M' hX p e s m args below meth c H locs ls C hP hS hl)
theorem ev_mabs {idx : Nat} {x : Int32} (hw : zMw Y.1.cls idx 1 Lib.Math.abs.name Lib.Math.abs.code) (hd : decode Y.2.1 pc = .ok (.invokestatic idx, 3)) (hst : (st.map fun v => v.category).sum ≤ 8) (hu : u ≤ Y.2.2.2.2.1) (kk : zEv l G Y d u (pc + 3) lv (.int (if 0 ≤ x then x else 0 - x) :: st) M X) : zEv l G Y d u pc lv (.int x :: st) M X := by
  intro r M' hX p e s m args below meth c H locs ls C hP hS hl
  have hRf : 1 ≤ (zRm d Y.2.2.2.2.1).frames := by show 1 ≤ d + 16; omega
  have hRl : (st.map fun v => v.category).sum + 13 ≤ (zRm d Y.2.2.2.2.1).locals := by show _ + _ ≤ 64 * d + 256; omega
  have hRs : 6 * u ≤ (zRm d Y.2.2.2.2.1).slots := by show 6 * u ≤ 6 * Y.2.2.2.2.1; omega
  exact va_mabs C.1 C.2.1 (C.2.2.2.1.trans hl.1.symm) C.2.2.2.2.1 (C.2.2.2.2.2.1 _ hw.1) (C.2.2.2.2.2.1 _ hw.2.1) (C.2.2.2.2.2.1 _ hw.2.2.1) (C.2.2.2.2.2.1 _ hw.2.2.2) hRf hRl hu hRs hd (kk r M' hX p e s m args below meth c H locs ls C hP hS hl)
/-- a switch: a case by its number, or none of them -/
theorem ev_tabIn {dflt lo hi off : Int} {offs : Array Int} {len tgt : Nat} {x : Int32} (hd : decode Y.2.1 pc = .ok (.tableswitch dflt lo hi offs, len)) (v : Int32) (hv : x = v) (h : ¬ v.toInt < lo ∧ ¬ hi < v.toInt ∧ offs[(v.toInt - lo).toNat]? = some off ∧ (pc : Int) + off = (tgt : Int)) (k : zEv l G Y d u tgt lv st M X) : zEv l G Y d u pc lv (.int x :: st) M X := by
  subst hv
  exact fun r M' hX p e s m args below meth c H locs ls C hP hS hl => lv_tableIn C.1 C.2.1 hd h.1 h.2.1 h.2.2.1 h.2.2.2 (k r M' hX p e s m args below meth c H locs ls C hP hS hl)
theorem ev_tabOut {dflt lo hi : Int} {offs : Array Int} {len tgt : Nat} {x : Int32} (hd : decode Y.2.1 pc = .ok (.tableswitch dflt lo hi offs, len)) (h : x.toInt < lo ∨ hi < x.toInt) (ht : (pc : Int) + dflt = (tgt : Int)) (k : zEv l G Y d u tgt lv st M X) : zEv l G Y d u pc lv (.int x :: st) M X :=
  fun r M' hX p e s m args below meth c H locs ls C hP hS hl => lv_tableOut C.1 C.2.1 hd h ht (k r M' hX p e s m args below meth c H locs ls C hP hS hl)
theorem i32ne {x v : Int32} {n : Int} (h : ¬ x = v) (hn : v.toInt = n) : x.toInt ≠ n := fun e => h (Int32.toInt_inj.mp (e.trans hn.symm))
/-- throw new E("text") -/
def zTh (own : String) (ik ic : Nat) (cls : String) (names : List String) : Prop := Bundle.fit cls = true ∧ (∀ n ∈ names, Bundle.fit n = true) ∧ names.length ≤ 4 ∧ Cond.classLink own ik cls ∈ zT ∧ Cond.initialized cls ∈ zT ∧ ∀ w ∈ vx_atS own ic cls names, w ∈ zT ∨ w ∈ zBw
theorem zTh_ot {own cls : String} {ik ic : Nat} {names : List String} (h : zTh own ik ic cls names) : ∀ w ∈ Cond.classLink own ik cls :: Cond.initialized cls :: vx_atS own ic cls names, vx_ot w = true := by
  intro w hw
  have hm : w ∈ zT ∨ w ∈ zBw := by
    rcases List.mem_cons.mp hw with e | hw
    · rw [e]; exact Or.inl h.2.2.2.1
    · rcases List.mem_cons.mp hw with e | hw
      · rw [e]; exact Or.inl h.2.2.2.2.1
      · exact h.2.2.2.2.2 w hw
  rcases hm with hm | hm
  · unfold vx_ot
    rw [zT_good hm, Bool.or_true]
  · exact zBw_ot w hm
theorem zkept {H : Heap} {t : State} (hP : va_P G.1 vwCl (zws G M) H) (h : ∀ q : Nat, q < H.size → t.heap[q]? = H[q]?) : va_P G.1 vwCl (zws G M) t.heap :=
  hP.kept (fun k q hk => h _ (hP k q hk).lt)
theorem ev_throwS {cls text : String} {names : List String} {ik is ic i : Nat} (hl : l.stackTraces = false) (hw : zTh Y.1.cls ik ic cls names) (hsr : (Y.1.cls, is, text, i) ∈ zSR)
    (d0 : decode Y.2.1 pc = .ok (.new ik, 3)) (d3 : decode Y.2.1 (pc + 3) = .ok (.dup, 1)) (d4 : decode Y.2.1 (pc + 4) = .ok (.ldc is, 2)) (d6 : decode Y.2.1 (pc + 6) = .ok (.invokespecial ic, 3)) (d9 : decode Y.2.1 (pc + 9) = .ok (.athrow, 1)) (hu : u + 1 ≤ Y.2.2.2.2.1) (hst : (st.map fun v => v.category).sum ≤ 8) (hh : Y.2.2.2.2.2 = [] := by rfl) : zEv l G Y d u pc lv st M (zE cls M) := by
  intro r M' hX p e s m args below meth c H locs ls C hP hS hlv
  have hr2 : r = .inr cls := (Prod.mk.inj (Option.some.inj hX)).1.symm
  have hM2 : M' = M := (Prod.mk.inj (Option.some.inj hX)).2.symm
  rw [hr2, hM2]
  have hRf : names.length + 3 < (zRm d Y.2.2.2.2.1).frames := by have := hw.2.2.1; show _ < d + 16; omega
  have hRl : (st.map fun v => v.category).sum + (13 * (names.length + 1) + 43) ≤ (zRm d Y.2.2.2.2.1).locals := by have := hw.2.2.1; show _ ≤ 64 * d + 256; omega
  have hRs : 6 * u + 6 ≤ (zRm d Y.2.2.2.2.1).slots := by show _ ≤ 6 * Y.2.2.2.2.1; omega
  exact vx_throwS (own := Y.1.cls) (cls := cls) (text := text) (names := names) (ik := ik) (is := is) (ic := ic) (A := zA G) C.1 C.2.1 hl C.2.2.2.2.1 hw.1 hw.2.1 (C.2.2.2.2.2.1 _ hw.2.2.2.1) (C.2.2.2.2.2.1 _ hw.2.2.2.2.1) (C.2.2.2.2.2.2.2.2.1.2.2.2.1 _ hsr) (fun w h => (hw.2.2.2.2.2 w h).elim (fun z => C.2.2.2.2.2.1 _ z) (fun z => C.2.2.2.2.2.2.2.2.1.2.2.2.2.2.2.1.use w z)) (zTh_ot hw) C.2.2.2.2.2.2.2.2.1.1 C.2.2.2.2.2.2.2.2.1.2.1 hS (hlv.1.trans C.2.2.2.1.symm) d0 d3 d4 d6 d9 (fun x hx => by rw [C.2.2.2.2.2.2.2.2.2, hh] at hx; cases hx) hRf hRl hu hRs C.2.2.2.2.2.2.1
    (fun t hv hz hk => ⟨rfl, zkept hP hk, ⟨Nat.le_trans hS.1 hz, fun q h1 h2 => by rw [hk q (Nat.lt_of_lt_of_le h1 hS.1)]; exact hS.2.1 q h1 h2⟩⟩) hS.2.2 hu (by omega)
theorem ev_throwSW {cls text : String} {names : List String} {ik is ic i : Nat} (hl : l.stackTraces = false) (hw : zTh Y.1.cls ik ic cls names) (hsr : (Y.1.cls, is, text, i) ∈ zSR)
    (d0 : decode Y.2.1 pc = .ok (.new ik, 3)) (d3 : decode Y.2.1 (pc + 3) = .ok (.dup, 1)) (d4 : decode Y.2.1 (pc + 4) = .ok (.ldc_w is, 3)) (d7 : decode Y.2.1 (pc + 7) = .ok (.invokespecial ic, 3)) (d10 : decode Y.2.1 (pc + 10) = .ok (.athrow, 1)) (hu : u + 1 ≤ Y.2.2.2.2.1) (hst : (st.map fun v => v.category).sum ≤ 8) (hh : Y.2.2.2.2.2 = [] := by rfl) : zEv l G Y d u pc lv st M (zE cls M) := by
  intro r M' hX p e s m args below meth c H locs ls C hP hS hlv
  have hr2 : r = .inr cls := (Prod.mk.inj (Option.some.inj hX)).1.symm
  have hM2 : M' = M := (Prod.mk.inj (Option.some.inj hX)).2.symm
  rw [hr2, hM2]
  have hRf : names.length + 3 < (zRm d Y.2.2.2.2.1).frames := by have := hw.2.2.1; show _ < d + 16; omega
  have hRl : (st.map fun v => v.category).sum + (13 * (names.length + 1) + 43) ≤ (zRm d Y.2.2.2.2.1).locals := by have := hw.2.2.1; show _ ≤ 64 * d + 256; omega
  have hRs : 6 * u + 6 ≤ (zRm d Y.2.2.2.2.1).slots := by show _ ≤ 6 * Y.2.2.2.2.1; omega
  exact vx_throwSW (own := Y.1.cls) (cls := cls) (text := text) (names := names) (ik := ik) (is := is) (ic := ic) (A := zA G) C.1 C.2.1 hl C.2.2.2.2.1 hw.1 hw.2.1 (C.2.2.2.2.2.1 _ hw.2.2.2.1) (C.2.2.2.2.2.1 _ hw.2.2.2.2.1) (C.2.2.2.2.2.2.2.2.1.2.2.2.1 _ hsr) (fun w h => (hw.2.2.2.2.2 w h).elim (fun z => C.2.2.2.2.2.1 _ z) (fun z => C.2.2.2.2.2.2.2.2.1.2.2.2.2.2.2.1.use w z)) (zTh_ot hw) C.2.2.2.2.2.2.2.2.1.1 C.2.2.2.2.2.2.2.2.1.2.1 hS (hlv.1.trans C.2.2.2.1.symm) d0 d3 d4 d7 d10 (fun x hx => by rw [C.2.2.2.2.2.2.2.2.2, hh] at hx; cases hx) hRf hRl hu hRs C.2.2.2.2.2.2.1
    (fun t hv hz hk => ⟨rfl, zkept hP hk, ⟨Nat.le_trans hS.1 hz, fun q h1 h2 => by rw [hk q (Nat.lt_of_lt_of_le h1 hS.1)]; exact hS.2.1 q h1 h2⟩⟩) hS.2.2 hu (by omega)
end ZM
theorem zTh_by {own cls : String} {ik ic : Nat} {names : List String} (h1 : Bundle.fit cls = true) (h2 : ∀ n ∈ names, Bundle.fit n = true) (h3 : names.length ≤ 4) (h4 : zT.contains (Cond.classLink own ik cls) = true) (h5 : zT.contains (Cond.initialized cls) = true) (h : ((vx_atS own ic cls names).all (fun w => zT.contains w || zBw.contains w)) = true) : zTh own ik ic cls names := by
  refine ⟨h1, h2, h3, List.contains_iff_mem.mp h4, List.contains_iff_mem.mp h5, fun w hw => ?_⟩
  have q := List.all_eq_true.mp h w hw
  rcases (Bool.or_eq_true _ _).mp q with q | q
  · exact Or.inl (List.contains_iff_mem.mp q)
  · exact Or.inr (List.contains_iff_mem.mp q)

theorem zTh_IAE : zTh RX11 119 123 "java/lang/IllegalArgumentException" ["java/lang/RuntimeException", "java/lang/Exception"] := zTh_by (by decide +kernel) (by decide +kernel) (by decide) (by decide +kernel) (by decide +kernel) (by decide +kernel)
