/-! undo, see, image, restore: their laws -/
theorem xAct_t {i j : Nat} (h : 21 ≤ i ∧ i ≤ 45) : xAct i j = true := by
  unfold xAct
  rw [decide_eq_true h.1, decide_eq_true h.2]
  simp
theorem mAct_t {i j : Nat} (h : i = 17 ∨ (32 ≤ i ∧ i ≤ 36) ∨ (48 ≤ i ∧ i ≤ 50) ∨ (60 ≤ i ∧ i ≤ 65) ∨ (i = 99 ∧ ((37 ≤ j ∧ j ≤ 40) ∨ (57 ≤ j ∧ j ≤ 59)))) : mAct i j = true := by
  unfold mAct
  simp only [Bool.or_eq_true, Bool.and_eq_true, beq_iff_eq, decide_eq_true_iff]
  omega
