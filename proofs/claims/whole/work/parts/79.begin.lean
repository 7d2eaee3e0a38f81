/-! at the beginning -/
theorem inv_0 : Inv 0 zX zM := by
  refine ⟨⟨⟨0, 0, by omega, by omega, rfl, rfl, ⟨rfl, rfl, rfl, rfl, rfl, rfl, rfl⟩, ⟨rfl, rfl⟩, fun k hk => ?_, fun k hk => ?_, fun i hi => absurd hi (Nat.not_lt_zero i), fun e he => absurd he (Nat.not_lt_zero e), by unfold RBa; decide⟩, ⟨fun _ => 20, fun k hk => ?_, by decide⟩⟩, ⟨0, 0, by omega, by omega, rfl, rfl, rfl, fun i a b => by omega⟩, Or.inl ⟨rfl, rfl⟩, ⟨rfl, fun h => absurd rfl h, rfl, fun h => absurd rfl h⟩, ⟨0, by omega, rfl, rfl, fun j hj => absurd hj (Nat.not_lt_zero j)⟩, rfl, ⟨0, by omega, rfl, rfl, rfl, fun j hj => absurd hj (Nat.not_lt_zero j)⟩⟩
  · rcases (show k = 0 ∨ k = 1 ∨ k = 2 ∨ k = 3 by omega) with rfl | rfl | rfl | rfl <;> rfl
  · rcases (show k = 0 ∨ k = 1 ∨ k = 2 ∨ k = 3 ∨ k = 4 ∨ k = 5 by omega) with rfl | rfl | rfl | rfl | rfl | rfl <;> exact ⟨rfl, by decide, by decide⟩
  · rcases (show k = 0 ∨ k = 1 ∨ k = 2 ∨ k = 3 by omega) with rfl | rfl | rfl | rfl <;> rfl
