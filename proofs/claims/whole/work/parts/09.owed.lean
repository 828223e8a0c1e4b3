/-! rows that are owed still -/
section ZQ
variable {l : Launch} {G : zG} {Y : zY} {d u pc : Nat} {lv : List (Nat × Value)} {st : List Value} {M : zM} {X : zO}
def zTn (own : String) (ik ic : Nat) (cls : String) : Prop := own = RX11 ∧ ik = 164 ∧ ic = 168 ∧ cls = "java/util/NoSuchElementException"
theorem zTh_NSE : zTn RX11 164 168 "java/util/NoSuchElementException" := ⟨rfl, rfl, rfl, rfl⟩
theorem ev_throwN {cls text : String} {ik is ic i : Nat} (hl : l.stackTraces = false) (hw : zTn Y.1.cls ik ic cls) (hsr : (Y.1.cls, is, text, i) ∈ zSR)
    (d0 : decode Y.2.1 pc = .ok (.new ik, 3)) (d3 : decode Y.2.1 (pc + 3) = .ok (.dup, 1)) (d4 : decode Y.2.1 (pc + 4) = .ok (.ldc is, 2)) (d6 : decode Y.2.1 (pc + 6) = .ok (.invokespecial ic, 3)) (d9 : decode Y.2.1 (pc + 9) = .ok (.athrow, 1)) (hu : u + 1 ≤ Y.2.2.2.2.1) (hst : (st.map fun v => v.category).sum ≤ 8) (hh : Y.2.2.2.2.2 = [] := by rfl) : zEv l G Y d u pc lv st M (zE cls M) := sorry
theorem ev_throwNW {cls text : String} {ik is ic i : Nat} (hl : l.stackTraces = false) (hw : zTn Y.1.cls ik ic cls) (hsr : (Y.1.cls, is, text, i) ∈ zSR)
    (d0 : decode Y.2.1 pc = .ok (.new ik, 3)) (d3 : decode Y.2.1 (pc + 3) = .ok (.dup, 1)) (d4 : decode Y.2.1 (pc + 4) = .ok (.ldc_w is, 3)) (d7 : decode Y.2.1 (pc + 7) = .ok (.invokespecial ic, 3)) (d10 : decode Y.2.1 (pc + 10) = .ok (.athrow, 1)) (hu : u + 1 ≤ Y.2.2.2.2.1) (hst : (st.map fun v => v.category).sum ≤ 8) (hh : Y.2.2.2.2.2 = [] := by rfl) : zEv l G Y d u pc lv st M (zE cls M) := sorry
end ZQ
