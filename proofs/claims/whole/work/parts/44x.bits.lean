/-! one bit more or none -/
theorem xor_00 : ∀ f : Nat, f < 12 → ∀ a : Nat, a < 64 → ∀ b : Nat, b < 64 → ((64 * a + b) ^^^ ((64 * a + b) &&& 2 ^ f) = 0 ↔ 64 * a + b = 0 ∨ 64 * a + b = 2 ^ f) := by decide +kernel
theorem pop_10 : ∀ f : Nat, f < 12 → ∀ a : Nat, a < 64 → ∀ b : Nat, b < 64 → ((popc (64 * a + b) = 1 ∧ (64 * a + b).testBit f = true) ↔ 64 * a + b = 2 ^ f) := by decide +kernel
