section
variable {B : Nat → Nat} {n s p k N : Nat} {S SM : gS}
theorem wets_bad (h : SM 99 27 ≠ 0) {f : Nat} : fX12_sayWets_h22 5000 (f + 1) 0 SM = some (0, sU SM 5 9 0) := by
  show fX12_sayWets_b22 5000 _ 0 SM = _
  unfold fX12_sayWets_b22
  rw [if_neg h]
  rfl
theorem wet_flt {S' : gS} (h : flt S' SM) {f : Nat} : fX3_readWet_h49 5000 (f + 1) 1 S' = some (0, S') := by
  show fX3_readWet_b49 5000 _ 1 S' = _
  unfold fX3_readWet_b49
  rw [if_neg (by decide)]
  unfold fX3_readWet_b55
  rw [bnd_t (flt_x (N := 5000) h).1]
  rfl
end
