/-! THE BEGINNING: a new object, a new reference -/
def z0 : aX := (C0, S0, [], fun _ => none, (0, fun _ => 0), (0, fun _ => 0, fun _ => 0), 0, -1, (0, fun _ => 0))
theorem wX_0 : wX z0 := by
  obtain ⟨wc, ws⟩ := (wD_0 (0, fun _ => 0)).2 0 rfl
  exact ⟨wc, ws, ⟨Nat.zero_le _, fun S hS => (by cases hS)⟩, fun i S s h => (by cases h), ⟨Nat.zero_le _, fun k hk => absurd hk (Nat.not_lt_zero _)⟩, ⟨Nat.zero_le _, fun k hk => absurd hk (Nat.not_lt_zero _)⟩, (by decide : 0 < 2147483648), ⟨Nat.zero_le _, fun k hk => absurd hk (Nat.not_lt_zero _)⟩⟩
theorem RX_0 : RX z0 jx0 := by
  refine ⟨⟨rfl, rfl, rfl, rfl, fun k hk => absurd hk (Nat.not_lt_zero _), fun k hk => absurd hk (Nat.not_lt_zero _), fun k hk => absurd hk (Nat.not_lt_zero _)⟩, ⟨fun k hk => absurd hk (Nat.not_lt_zero _), rfl, fun k hk => absurd hk (Nat.not_lt_zero _), fun k hk => absurd hk (Nat.not_lt_zero _), rfl⟩, ⟨0, rfl, rfl, by decide, Nat.zero_le _, fun k S hk => (by cases hk)⟩, fun i hi => ⟨fun _ => ?_, fun S s hc => (by cases hc)⟩, ⟨rfl, fun k hk => absurd hk (Nat.not_lt_zero _), rfl, fun k hk => absurd hk (Nat.not_lt_zero _), fun k hk => absurd hk (Nat.not_lt_zero _)⟩, rfl, rfl, ⟨rfl, fun k hk => absurd hk (Nat.not_lt_zero _)⟩⟩
  rcases (show i = 0 ∨ i = 1 by omega) with rfl | rfl <;> rfl
theorem RM_0 : RM z0 jx0 := by
  refine ⟨⟨rfl, rfl, rfl, rfl, fun k hk => absurd hk (Nat.not_lt_zero _), fun k hk => absurd hk (Nat.not_lt_zero _), fun k hk => absurd hk (Nat.not_lt_zero _)⟩, ⟨fun k hk => absurd hk (Nat.not_lt_zero _), rfl, fun k hk => absurd hk (Nat.not_lt_zero _), fun k hk => absurd hk (Nat.not_lt_zero _), rfl⟩, ⟨rfl, Nat.zero_le _, fun k S hk => (by cases hk)⟩, fun i hi => ⟨fun _ => ?_, fun S s hc => (by cases hc)⟩, ⟨rfl, fun k hk => absurd hk (Nat.not_lt_zero _), rfl, fun k hk => absurd hk (Nat.not_lt_zero _), fun k hk => absurd hk (Nat.not_lt_zero _)⟩, rfl, rfl, ⟨rfl, fun k hk => absurd hk (Nat.not_lt_zero _)⟩⟩
  rcases (show i = 0 ∨ i = 1 by omega) with rfl | rfl <;> rfl
