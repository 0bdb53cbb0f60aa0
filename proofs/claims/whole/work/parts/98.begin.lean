/-! the first world keeps the relation -/
theorem inv_start : Inv I0 F0_ J0 K0 := by
  refine ⟨0, 0, 0, 0, ⟨⟨rfl, rfl, rfl, rfl⟩, ⟨by omega, by omega, by omega, by omega, fun _ => ⟨rfl, rfl, rfl⟩⟩, ⟨rfl, rfl, rfl, rfl⟩, fun b hb => by omega, fun b hb => by omega, fun b hb => by omega⟩, ⟨⟨0, by omega, rfl⟩, rfl, rfl, fun b hb => by omega, fun b q hb => by omega, fun b hb => by omega, 0, by omega, rfl, fun i hi => by omega⟩, ⟨rfl, by decide⟩, ⟨0, by omega, rfl, rfl, fun i hi => by omega⟩, rfl, seen_empty _ _, book_empty _ _ _ _ _ _, ⟨0, 0, by omega, by omega, rfl, rfl, rfl, fun i hi => by omega⟩, fun i hi => ?_⟩
  rcases c2 hi with rfl | rfl
  · exact ⟨Or.inl rfl, rfl, fun h => absurd h (by decide)⟩
  · exact ⟨Or.inl rfl, rfl, fun h => absurd h (by decide)⟩
