/-! THE FIRST CONTENTS: what the two constructors leave keeps the tie -/
def sg0 : vt_Sg := fun k => if k < 168 then sc_X11 k else sc_X12 (k - 168)
theorem sg0_feet : ∀ p, p < 12 → sg0 169 (10 + p) = sg0 2 p ∧ sg0 2 p = nI 100 := by
  decide +kernel
theorem sg0_sh : ∀ j, j < 16 → (sg0 113 j = sg0 174 j ∧ fits .short (.int (sg0 113 j)) = true) ∧ (sg0 114 j = sg0 174 (16 + j) ∧ fits .short (.int (sg0 114 j)) = true) := by
  decide +kernel
theorem Inv0 : Inv sg0 := by
  refine ⟨⟨0, 0, 0, 0, 0, 0, ⟨⟨by decide, by decide, by decide, by decide, by decide, by decide⟩, ⟨rfl, rfl, rfl, rfl, rfl, rfl⟩, ⟨by decide +kernel, by decide +kernel, by decide +kernel, by decide +kernel, by decide +kernel, by decide +kernel⟩⟩, ?_, ⟨by decide +kernel, by decide +kernel⟩, ?_, ?_, ?_, ?_, ?_, ?_⟩, Or.inl ⟨rfl, rfl⟩, ⟨0, by decide, rfl, rfl, fun i hi => absurd hi (by omega)⟩, ⟨0, by decide, rfl, rfl, fun i hi => absurd hi (by omega)⟩, ⟨⟨Or.inl ⟨by decide +kernel, by decide +kernel⟩, fun j hj => (sg0_sh j hj).1⟩, ⟨Or.inl ⟨by decide +kernel, by decide +kernel⟩, fun j hj => (sg0_sh j hj).2⟩⟩⟩
  · intro p hp
    exact ⟨(sg0_feet p hp).1, 100, by decide, by decide, (sg0_feet p hp).2⟩
  · intro d hd
    exact absurd hd (by omega)
  · intro d hd
    exact absurd hd (by omega)
  · refine ⟨fun _ => 0, fun _ => 0, fun _ => none, fun k hk => absurd hk (by omega), fun k hk => absurd hk (by omega), fun m s s' p h => ?_⟩
    cases h
  · exact ⟨fun _ => 0, fun _ => 0, fun _ => 0, fun _ => none, fun k hk => absurd hk (by omega)⟩
  · exact ⟨fun s _ _ => rfl, fun s hs => absurd hs (by omega)⟩
  · intro d hd
    exact absurd hd (by omega)
