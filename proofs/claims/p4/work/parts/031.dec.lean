/-! decode rows by a test -/
noncomputable def dEq (x : Except Jvm.ClassFile.DecodeError (Jvm.ClassFile.Instr × Nat)) (i : Jvm.ClassFile.Instr) (n : Nat) : Bool := match x with
  | .ok (j, m) => decide (j = i) && decide (m = n)
  | .error _ => false
theorem dOk {c : ByteArray} {pc : Nat} {i : Jvm.ClassFile.Instr} {n : Nat} (h : dEq (decode c pc) i n = true) : decode c pc = .ok (i, n) := by
  unfold dEq at h
  split at h
  · rename_i j m e
    rw [Bool.and_eq_true] at h
    rw [e, of_decide_eq_true h.1, of_decide_eq_true h.2]
  · cases h
