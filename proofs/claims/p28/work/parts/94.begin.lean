/-! The relation at the start: a new clock, four arrays of zeros. -/
theorem JJ_0 : JJ zV_X6 (fun _ => 0) (fun _ => 0) (fun _ => 0) (fun _ => 0) := by
  refine ⟨fun _ => 0, 0, 0, 0, ?_⟩
  have hpi : ∀ a : Nat, a < 4 → a < 4 := fun a h => h
  refine ⟨⟨⟨by omega, rfl, rfl, fun i hi => absurd hi (Nat.not_lt_zero i)⟩, ⟨by omega, rfl, rfl, fun i hi => absurd hi (Nat.not_lt_zero i)⟩, rfl, rfl, rfl, rfl, rfl, Or.inl ⟨rfl, rfl⟩⟩, ⟨by omega, rfl, rfl, fun i hi => absurd hi (Nat.not_lt_zero i)⟩, ⟨fun i hi => absurd hi (Nat.not_lt_zero i), fun i hi => absurd hi (Nat.not_lt_zero i), Or.inl rfl, 0, rfl, Nat.zero_le _, Or.inl ⟨rfl, Nat.zero_le _⟩⟩, ⟨0, by omega, rfl, ?_⟩, ⟨⟨by omega, by omega, by omega, rfl, rfl, rfl, rfl, rfl, rfl, rfl, rfl, rfl, rfl, fun i w hi => absurd hi (Nat.not_lt_zero i), fun i w hi => absurd hi (Nat.not_lt_zero i), fun i w hi => absurd hi (Nat.not_lt_zero i)⟩, Or.inl ⟨rfl, rfl, rfl⟩⟩, fun a ha => absurd ha (Nat.not_lt_zero a), fun _ => rfl, fun a ha => absurd ha (Nat.not_lt_zero a)⟩
  intro j hj
  rcases (by omega : j = 0 ∨ j = 1 ∨ j = 2 ∨ j = 3) with rfl | rfl | rfl | rfl <;> decide
