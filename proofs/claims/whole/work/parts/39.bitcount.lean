def m0 : am_M := fun _ _ => 0
theorem bcI : ∀ b : Nat, b < 128 → ∀ c : Nat, c < 64 → v_72 m0 ((64 * b + c : Nat) : Int) = ((cnt (64 * b + c) 13 : Nat) : Int) := by decide +kernel
theorem bcL : ∀ b : Nat, b < 64 → ∀ c : Nat, c < 64 → v_49 m0 ((64 * b + c : Nat) : Int) = ((cnt (64 * b + c) 12 : Nat) : Int) := by decide +kernel
theorem fdc : ∀ e : Nat, e < 10 → ∀ a : Nat, a < 256 → v_75 m0 ((a : Int) - 100) ((e : Int) + 1) = ((a : Int) - 100) / ((e : Int) + 1) := by decide +kernel
