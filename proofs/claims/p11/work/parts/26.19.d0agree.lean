/-! a block by other addresses that agree on it (the two blocks with rows of rows) -/
theorem xb_52 {cI cB cZ cQ : ClassId} {u G : Nat → Nat} (h : ∀ i, 52 ≤ i → i < 62 → G i = u i) : xb cI cB cZ cQ u 52 10 = xb cI cB cZ cQ G 52 10 := by
  have e : (fun i => if i < 7 then some (u (53 + 1 + i)) else none) = (fun i => if i < 7 then some (G (53 + 1 + i)) else none) := by
    funext i
    by_cases hi : i < 7
    · rw [if_pos hi, if_pos hi, h _ (by omega) (by omega)]
    · rw [if_neg hi, if_neg hi]
  show ([(u 52, Sum.inr (6, [Value.ref (u 53), Value.ref (u 61), Value.int 0, Value.int 0])), (u 53, Sum.inl (cQ, 7, .inr (.inr (.inr (.inr (fun i => if i < 7 then some (u (53 + 1 + i)) else none)))))), (u 54, .inl (cI, 256, .inl (fun _ => 0))), (u 55, .inl (cI, 256, .inl (fun _ => 0))), (u 56, .inl (cI, 256, .inl (fun _ => 0))), (u 57, .inl (cI, 256, .inl (fun _ => 0))), (u 58, .inl (cI, 256, .inl (fun _ => 0))), (u 59, .inl (cI, 256, .inl (fun _ => 0))), (u 60, .inl (cI, 256, .inl (fun _ => 0))), (u 61, .inl (cI, 6, .inl (fun _ => 0)))] : va_W) = _
  rw [e, ← h 52 (by omega) (by omega), ← h 53 (by omega) (by omega), ← h 54 (by omega) (by omega), ← h 55 (by omega) (by omega), ← h 56 (by omega) (by omega), ← h 57 (by omega) (by omega), ← h 58 (by omega) (by omega), ← h 59 (by omega) (by omega), ← h 60 (by omega) (by omega), ← h 61 (by omega) (by omega)]
  rfl
theorem xb_62 {cI cB cZ cQ : ClassId} {u G : Nat → Nat} (h : ∀ i, 62 ≤ i → i < 72 → G i = u i) : xb cI cB cZ cQ u 62 10 = xb cI cB cZ cQ G 62 10 := by
  have e : (fun i => if i < 6 then some (u (63 + 1 + i)) else none) = (fun i => if i < 6 then some (G (63 + 1 + i)) else none) := by
    funext i
    by_cases hi : i < 6
    · rw [if_pos hi, if_pos hi, h _ (by omega) (by omega)]
    · rw [if_neg hi, if_neg hi]
  show ([(u 62, Sum.inr (2, [Value.ref (u 63), Value.ref (u 70), Value.ref (u 71), Value.int 0, Value.int (-1), Value.int 1])), (u 63, Sum.inl (cQ, 6, .inr (.inr (.inr (.inr (fun i => if i < 6 then some (u (63 + 1 + i)) else none)))))), (u 64, .inl (cI, 21, .inl (fun _ => 0))), (u 65, .inl (cI, 21, .inl (fun _ => 0))), (u 66, .inl (cI, 21, .inl (fun _ => 0))), (u 67, .inl (cI, 21, .inl (fun _ => 0))), (u 68, .inl (cI, 21, .inl (fun _ => 0))), (u 69, .inl (cI, 21, .inl (fun _ => 0))), (u 70, .inl (cI, 21, .inl (fun _ => 0))), (u 71, .inl (cI, 21, .inl (fun _ => 0)))] : va_W) = _
  rw [e, ← h 62 (by omega) (by omega), ← h 63 (by omega) (by omega), ← h 64 (by omega) (by omega), ← h 65 (by omega) (by omega), ← h 66 (by omega) (by omega), ← h 67 (by omega) (by omega), ← h 68 (by omega) (by omega), ← h 69 (by omega) (by omega), ← h 70 (by omega) (by omega), ← h 71 (by omega) (by omega)]
  rfl
