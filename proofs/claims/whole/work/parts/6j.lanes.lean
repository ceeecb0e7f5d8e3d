/-! LAW 20: lanes -/
theorem ws3 : ∀ k : Nat, k < 6 → ∀ a : Nat, a < 64 → ∀ b : Nat, b < 64 → wand (wshr (((64 * a + b : Nat) : Int)) (((2 * k : Nat) : Int))) 3 = (((64 * a + b) / 4 ^ k % 4 : Nat) : Int) := by decide +kernel
