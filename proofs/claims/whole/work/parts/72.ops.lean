theorem rel_0 : Rel (sr_I shC nmC igC) σM0 := by
  refine ⟨⟨⟨⟨4, rfl, by omega, by omega⟩, ⟨50, rfl, by omega⟩, by decide, by decide, by decide, by decide⟩, ⟨0, rfl, by omega, by decide, fun k hk => absurd hk (by omega)⟩, ⟨0, 0, rfl, by omega, by omega, by decide, by decide, fun k hk => absurd hk (by omega)⟩, ⟨0, rfl, by omega, fun i hi => absurd hi (by omega)⟩, by decide⟩, ⟨0, rfl, by omega, by decide, fun k hk => absurd hk (by omega)⟩, fun j hj => ⟨?_, fun hx => ?_⟩, ⟨by decide, by decide, by decide, by decide⟩, Or.inl rfl, rfl⟩
  · have : j = 0 ∨ j = 1 := by omega
    rcases this with rfl | rfl <;> decide
  · exact absurd hx (by intro z; cases z)
