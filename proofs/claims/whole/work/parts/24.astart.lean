/-! the law's start -/
theorem st_refl (n : Nat) : n = n := rfl
