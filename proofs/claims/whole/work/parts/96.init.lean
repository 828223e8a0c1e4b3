/-! THE BEGINNING -/
def zq0 : zSt := (fun a _ => if a = 2 then 3 else 0, none, (fun _ => 0, fun _ => 0, 0), [], [], none, [], -1, fun _ => 0, 0)
theorem zok0 : zok zq0 := by
  refine ⟨⟨by decide, by decide, by decide, by decide, fun i hi => absurd hi (Nat.not_lt_zero _), fun i hi => absurd hi (Nat.not_lt_zero _), fun i hi => absurd hi (Nat.not_lt_zero _), fun i hi => absurd hi (Nat.not_lt_zero _)⟩, trivial, ⟨⟨fun i _ => (by decide : (0 : Nat) < 8), fun i hi => absurd hi (Nat.not_lt_zero _), fun i hi => absurd hi (Nat.not_lt_zero _), fun i _ j _ => (by decide : (0 : Int32) = -0)⟩, by decide, fun b hb => absurd hb List.not_mem_nil, by decide, fun b hb => absurd hb List.not_mem_nil⟩, (fun z hz => nomatch hz), by decide, fun b hb => absurd hb List.not_mem_nil, by decide⟩
theorem zm23 (j : Nat) : zMi 23 j = 0 := by rfl
theorem zqx0 : zQx zq0 zMi := by
  refine ⟨zok0, ⟨⟨by decide +kernel, by decide +kernel, by decide +kernel, fun i hi => absurd hi (Nat.not_lt_zero _), fun i hi => absurd hi (Nat.not_lt_zero _), fun i hi => absurd hi (Nat.not_lt_zero _), fun i hi => absurd hi (Nat.not_lt_zero _), fun j => by rw [zm23]; rfl⟩, ?_, ⟨by decide +kernel, by decide +kernel, by decide +kernel⟩, by decide +kernel, trivial, by decide +kernel, fun i hi => absurd hi (Nat.not_lt_zero _)⟩, ?_, ⟨by decide +kernel, fun i hi => absurd hi (Nat.not_lt_zero _)⟩, by decide +kernel, by decide +kernel, 0, by decide, by decide +kernel, ⟨Or.inl (by decide +kernel), fun z => absurd z (by decide +kernel)⟩, ⟨Or.inl (by decide +kernel), fun z => absurd z (by decide +kernel)⟩, ⟨Or.inl (by decide +kernel), fun z => absurd z (by decide +kernel)⟩⟩
  · show zMi 9 4 = 0
    decide +kernel
  · show zMi 0 14 = 0
    decide +kernel
theorem zqm0 : zQm zq0 zMi := by
  refine ⟨zok0, ⟨⟨by decide +kernel, by decide +kernel, by decide +kernel, fun i hi => absurd hi (Nat.not_lt_zero _), fun i hi => absurd hi (Nat.not_lt_zero _), fun i hi => absurd hi (Nat.not_lt_zero _), fun i hi => absurd hi (Nat.not_lt_zero _)⟩, ?_, ⟨by decide +kernel, by decide +kernel, by decide +kernel⟩, by decide +kernel, trivial, by decide +kernel, fun i hi => absurd hi (Nat.not_lt_zero _)⟩, ?_, ⟨by decide +kernel, fun i hi => absurd hi (Nat.not_lt_zero _)⟩, by decide +kernel, by decide +kernel, 0, by decide, by decide +kernel, fun i hi => Or.inl ?_⟩
  · show zMi 79 4 = -1
    decide +kernel
  · show zMi 79 73 = 0
    decide +kernel
  · rfl
