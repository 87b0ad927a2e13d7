/-! part 979.wet -/
section
section
variable {B : Nat → Nat} {n s p k N : Nat} {S SM : gS}
theorem wets_bad (h : SM 99 27 ≠ 0) {f : Nat} : fX12_sayWets_h22 5000 (f + 1) 0 SM = some (0, sU SM 5 9 0) := by
  show fX12_sayWets_b22 5000 _ 0 SM = _
  unfold fX12_sayWets_b22
  rw [if_neg h]
  rfl
theorem wet_flt {S' : gS} (h : flt S' SM) {f : Nat} : fX3_readWet_h49 5000 (f + 1) 1 S' = some (0, S') := by
  show fX3_readWet_b49 5000 _ 1 S' = _
  unfold fX3_readWet_b49
  rw [if_neg (by decide)]
  unfold fX3_readWet_b55
  rw [bnd_t (flt_x (N := 5000) h).1]
  rfl
end
end

/-! part 9790.draft -/
section
/-! the LINES' law: one relation for all of them -/
def dC (U g0 : Nat) (S SM : gS) : Prop := S U 0 = nI g0 ∧ SM 5 6 = nI g0 ∧ g0 ≤ 8 ∧ ∀ q, q < g0 → (∃ x : Nat, 1 ≤ x ∧ x ≤ 12 ∧ S (U + 1) q = nI x ∧ SM 7 (8 + q) = nI x) ∧ (∃ x : Nat, x ≤ 11 ∧ S (U + 2) q = nI x ∧ SM 8 (8 + q) = nI x) ∧ (∃ x : Nat, x ≤ 20 ∧ S (U + 3) q = nI x ∧ SM 9 (8 + q) = nI x) ∧ (∃ x : Nat, x ≤ 1 ∧ S (U + 4) q = nI x ∧ SM 6 (8 + q) = nI x)
def dH (U g0 g : Nat) (S SM : gS) : Prop := (∃ x : Nat, x ≤ 9 ∧ S (U + 5) g = nI x ∧ SM 10 (6 + g) = nI x) ∧ (∃ x : Nat, x ≤ 99 ∧ S (U + 6) g = nI x ∧ SM 11 (6 + g) = nI x) ∧ (∃ x : Nat, x ≤ 999 ∧ S (U + 7) g = nI x ∧ SM 12 (6 + g) = nI x) ∧ S (U + 8) g = SM 13 (6 + g) ∧ (S (U + 8) g = -1 ∨ ∃ q : Nat, q < g0 ∧ S (U + 8) g = nI q)
def dG (U g0 g1 tk : Nat) (S SM : gS) : Prop := S U 5 = nI g1 ∧ SM 5 7 = nI g1 ∧ g1 ≤ 6 ∧ (∀ g, g < g1 → dH U g0 g S SM) ∧ (∀ g g', g < g1 → g' < g1 → S (U + 8) g = S (U + 8) g' → S (U + 8) g ≠ -1 → g = g') ∧ SM 99 30 = nI tk ∧ tk < 256 ∧ ∀ q, q < 8 → (tk.testBit q = true ↔ ∃ g, g < g1 ∧ S (U + 8) g = nI q)
def dW (U nw : Nat) (S SM : gS) : Prop := S U 10 = nI nw ∧ SM 5 9 = nI nw ∧ nw ≤ 8 ∧ ∀ i, i < nw → ∃ x : Nat, x ≤ 9 ∧ S (U + 9) i = nI x ∧ SM 14 (8 + i) = nI x
def dB (U b : Nat) (S SM : gS) : Prop := S U 12 = nI b ∧ b ≤ 99 ∧ SM 5 8 = if b = 0 then 70 else nI b
def dP (r w sg c : Nat) (x : Int32) (S SM : gS) : Prop := (∃ D, rlJ r w sg c D S SM ∧ (c = 0 ∨ D = 1)) ∧ S r 2 = x
def drK (U g0 g1 nw b c1 c2 tk : Nat) (S SM : gS) : Prop := dC U g0 S SM ∧ dG U g0 g1 tk S SM ∧ dW U nw S SM ∧ dB U b S SM ∧ dP (U + 10) 10 15 c1 0 S SM ∧ dP (U + 13) 11 16 c2 1 S SM
theorem xNu_u {i j : Nat} (h1 : i ≠ 1) (h2 : i ≠ 2) : xNu i j = false := by
  unfold xNu xTk
  rw [beq_eq_false_iff_ne.mpr h1, beq_eq_false_iff_ne.mpr h2]
  rfl
theorem mNu_u {i j : Nat} (h : i ≠ 99) : mNu i j = false := by
  unfold mNu mTk
  rw [beq_eq_false_iff_ne.mpr h]
  rfl
section
variable {U g0 g1 nw b c1 c2 tk r w sg c : Nat} {S SM S' SM' : gS}
theorem dC.on (h : dC U g0 S SM) (x0 : S' U 0 = S U 0) (x : ∀ i j, U + 1 ≤ i → i ≤ U + 4 → S' i j = S i j) (m0 : SM' 5 6 = SM 5 6) (m : ∀ i j, 6 ≤ i → i ≤ 9 → SM' i j = SM i j) : dC U g0 S' SM' := by
  obtain ⟨h1, h2, h3, h4⟩ := h
  refine ⟨x0.trans h1, m0.trans h2, h3, fun q hq => ?_⟩
  rw [x (U + 1) q (by omega) (by omega), x (U + 2) q (by omega) (by omega), x (U + 3) q (by omega) (by omega), x (U + 4) q (by omega) (by omega), m 7 _ (by omega) (by omega), m 8 _ (by omega) (by omega), m 9 _ (by omega) (by omega), m 6 _ (by omega) (by omega)]
  exact h4 q hq
theorem dH.on {g : Nat} (h : dH U g0 g S SM) (x : ∀ i, U + 5 ≤ i → i ≤ U + 8 → S' i g = S i g) (m : ∀ i, 10 ≤ i → i ≤ 13 → SM' i (6 + g) = SM i (6 + g)) : dH U g0 g S' SM' := by
  unfold dH at h ⊢
  rw [x (U + 5) (by omega) (by omega), x (U + 6) (by omega) (by omega), x (U + 7) (by omega) (by omega), x (U + 8) (by omega) (by omega), m 10 (by omega) (by omega), m 11 (by omega) (by omega), m 12 (by omega) (by omega), m 13 (by omega) (by omega)]
  exact h
theorem dG.on (h : dG U g0 g1 tk S SM) (x0 : S' U 5 = S U 5) (x : ∀ i j, U + 5 ≤ i → i ≤ U + 8 → S' i j = S i j) (m0 : SM' 5 7 = SM 5 7) (m1 : SM' 99 30 = SM 99 30) (m : ∀ i j, 10 ≤ i → i ≤ 13 → SM' i j = SM i j) : dG U g0 g1 tk S' SM' := by
  obtain ⟨h1, h2, h3, h4, h5, h6, h7, h8⟩ := h
  refine ⟨x0.trans h1, m0.trans h2, h3, fun g hg => (h4 g hg).on (fun i a b => x i g a b) (fun i a b => m i _ a b), fun g g' => ?_, m1.trans h6, h7, fun q hq => ?_⟩
  · rw [x (U + 8) g (by omega) (by omega), x (U + 8) g' (by omega) (by omega)]
    exact h5 g g'
  · rw [show S' (U + 8) = S (U + 8) from funext fun j => x (U + 8) j (by omega) (by omega)]
    exact h8 q hq
theorem dG.more (h : dG U g0 g1 tk S SM) {y : Nat} (hy : g0 ≤ y) : dG U y g1 tk S SM := by
  obtain ⟨h1, h2, h3, h4, h5⟩ := h
  refine ⟨h1, h2, h3, fun g hg => ?_, h5⟩
  obtain ⟨a1, a2, a3, a4, a5⟩ := h4 g hg
  refine ⟨a1, a2, a3, a4, ?_⟩
  rcases a5 with a5 | ⟨q, q1, q2⟩
  · exact Or.inl a5
  · exact Or.inr ⟨q, by omega, q2⟩
theorem dW.on (h : dW U nw S SM) (x0 : S' U 10 = S U 10) (x : ∀ j, S' (U + 9) j = S (U + 9) j) (m0 : SM' 5 9 = SM 5 9) (m : ∀ j, SM' 14 j = SM 14 j) : dW U nw S' SM' := by
  obtain ⟨h1, h2, h3, h4⟩ := h
  refine ⟨x0.trans h1, m0.trans h2, h3, fun q hq => ?_⟩
  rw [x q, m]
  exact h4 q hq
theorem dB.on (h : dB U b S SM) (x0 : S' U 12 = S U 12) (m0 : SM' 5 8 = SM 5 8) : dB U b S' SM' := ⟨x0.trans h.1, h.2.1, m0.trans h.2.2⟩
theorem dP.on {y : Int32} (h : dP r w sg c y S SM) (x : ∀ i j, i = r ∨ i = r + 1 → S' i j = S i j) (m0 : SM' 5 w = SM 5 w) (m : ∀ j, SM' sg j = SM sg j) : dP r w sg c y S' SM' := by
  obtain ⟨⟨D, ⟨h1, h2, h3, h4, h5, h6⟩, h7⟩, h8⟩ := h
  have e : S' (r + 1) = S (r + 1) := funext fun j => x (r + 1) j (Or.inr rfl)
  refine ⟨⟨D, ⟨(x r 3 (Or.inl rfl)).trans h1, m0.trans h2, h3, fun i hi => ?_, by rw [e]; exact h5, by rw [e]; exact h6⟩, h7⟩, (x r 2 (Or.inl rfl)).trans h8⟩
  rw [m, e]
  exact h4 i hi
end
def mBig (i j : Nat) : Prop := (i = 99 ∧ (j = 3 ∨ j = 30 ∨ j = 31)) ∨ (i = 5 ∧ 6 ≤ j) ∨ ((6 ≤ i ∧ i ≤ 9 ∨ i = 14) ∧ 8 ≤ j) ∨ (10 ≤ i ∧ i ≤ 13 ∧ 6 ≤ j) ∨ ((i = 15 ∨ i = 16) ∧ 700 ≤ j)
def fLx (U : Nat) (S S' : gS) : Prop := ∀ i j, xNu i j = false → ¬ (U ≤ i ∧ i < U + 16) ∨ ((i = U + 10 ∨ i = U + 13) ∧ j = 2) → S' i j = S i j
def fLm (SM SM' : gS) : Prop := ∀ i j, mNu i j = false → ¬ mBig i j → SM' i j = SM i j
theorem fLx.tr {U : Nat} {S S' S'' : gS} (h : fLx U S S') (h' : fLx U S' S'') : fLx U S S'' := fun i j a b => (h' i j a b).trans (h i j a b)
theorem fLm.tr {S S' S'' : gS} (h : fLm S S') (h' : fLm S' S'') : fLm S S'' := fun i j a b => (h' i j a b).trans (h i j a b)
/-- behind a LINE -/
def LIN (B : Nat → Nat) (n U s : Nat) (S SM S' SM' : gS) (d : Int32) : Prop := fLx U S S' ∧ fLm SM SM' ∧ ∃ s' p' k', tkJ B n s' p' k' S' SM' ∧ ((fine S' SM' ∧ s + 1 ≤ s' ∧ ∃ g0 g1 nw b c1 c2 tk, drK U g0 g1 nw b c1 c2 tk S' SM' ∧ doneV nw b c1 c2 = d) ∨ flt S' SM')
theorem dnA1 : ∀ a, a < 2 → ∀ b, b < 2 → ∀ c, c < 2 → ∀ d, d < 2 → ((1 : Int32) &&& nI (a + 2 * b + 4 * c + 8 * d)) = nI a ∧ ((2 : Int32) &&& nI (a + 2 * b + 4 * c + 8 * d)) = nI (2 * b) := by decide +kernel
theorem dnA2 : ∀ a, a < 2 → ∀ b, b < 2 → ∀ c, c < 2 → ∀ d, d < 2 → ((4 : Int32) &&& nI (a + 2 * b + 4 * c + 8 * d)) = nI (4 * c) ∧ ((8 : Int32) &&& nI (a + 2 * b + 4 * c + 8 * d)) = nI (8 * d) := by decide +kernel
theorem dnA3 : ∀ a, a < 2 → ∀ b, b < 2 → ∀ c, c < 2 → ∀ d, d < 2 → nI (a + 2 * b + 4 * c + 8 * d) ||| 0 = nI (a + 2 * b + 4 * c + 8 * d) ∧ nI (a + 2 * b + 4 * c + 8 * d) ||| 1 = nI (1 + 2 * b + 4 * c + 8 * d) := by decide +kernel
theorem dnA4 : ∀ a, a < 2 → ∀ b, b < 2 → ∀ c, c < 2 → ∀ d, d < 2 → nI (a + 2 * b + 4 * c + 8 * d) ||| 2 = nI (a + 2 * 1 + 4 * c + 8 * d) ∧ nI (a + 2 * b + 4 * c + 8 * d) ||| 4 = nI (a + 2 * b + 4 * 1 + 8 * d) := by decide +kernel
theorem dnA5 : ∀ a, a < 2 → ∀ b, b < 2 → ∀ c, c < 2 → ∀ d, d < 2 → nI (a + 2 * b + 4 * c + 8 * d) ||| 8 = nI (a + 2 * b + 4 * c + 8 * 1) := by decide +kernel
noncomputable def d01 (x : Nat) : Nat := if x = 0 then 0 else 1
theorem d01_lt (x : Nat) : d01 x < 2 := by
  unfold d01
  split <;> omega
theorem d01_0 (x : Nat) : d01 x = 0 ↔ x = 0 := by
  unfold d01
  split <;> omega
section
variable {nw b c1 c2 : Nat}
theorem dn_e : doneV nw b c1 c2 = nI (d01 nw + 2 * d01 b + 4 * d01 c1 + 8 * d01 c2) := by
  have e : ∀ x m : Nat, (if x = 0 then 0 else m) = m * d01 x := fun x m => by
    unfold d01
    split <;> omega
  unfold doneV
  rw [e nw 1, e b 2, e c1 4, e c2 8, Nat.one_mul]
theorem dnB : ((((1 : Int32) &&& doneV nw b c1 c2) = 0 ↔ nw = 0) ∧ (((2 : Int32) &&& doneV nw b c1 c2) = 0 ↔ b = 0) ∧ (((4 : Int32) &&& doneV nw b c1 c2) = 0 ↔ c1 = 0) ∧ (((8 : Int32) &&& doneV nw b c1 c2) = 0 ↔ c2 = 0)) ∧ doneV nw b c1 c2 ||| 0 = doneV nw b c1 c2 ∧ doneV nw b c1 c2 ||| 1 = doneV 1 b c1 c2 ∧ doneV nw b c1 c2 ||| 2 = doneV nw 1 c1 c2 ∧ doneV nw b c1 c2 ||| 4 = doneV nw b 1 c2 ∧ doneV nw b c1 c2 ||| 8 = doneV nw b c1 1 := by
  rw [dn_e, dn_e, dn_e, dn_e, dn_e]
  have z1 := dnA1 _ (d01_lt nw) _ (d01_lt b) _ (d01_lt c1) _ (d01_lt c2)
  have z2 := dnA2 _ (d01_lt nw) _ (d01_lt b) _ (d01_lt c1) _ (d01_lt c2)
  have z3 := dnA3 _ (d01_lt nw) _ (d01_lt b) _ (d01_lt c1) _ (d01_lt c2)
  have z4 := dnA4 _ (d01_lt nw) _ (d01_lt b) _ (d01_lt c1) _ (d01_lt c2)
  have z5 := dnA5 _ (d01_lt nw) _ (d01_lt b) _ (d01_lt c1) _ (d01_lt c2)
  have e : ∀ (x m : Nat) (v : Int32), v = nI (m * d01 x) → 1 ≤ m → m ≤ 8 → (v = 0 ↔ x = 0) := fun x m v h h1 h8 => by
    have := d01_lt x
    have h9 : m * d01 x ≤ 8 * 1 := Nat.mul_le_mul h8 (by omega)
    rw [h]
    refine (nI_eq (b := 0) (by omega) (by omega)).trans ((Nat.mul_eq_zero).trans ⟨fun z => ?_, fun z => Or.inr ((d01_0 x).mpr z)⟩)
    rcases z with z | z
    · omega
    · exact (d01_0 x).mp z
  exact ⟨⟨e nw 1 _ (by rw [Nat.one_mul]; exact z1.1) (by omega) (by omega), e b 2 _ z1.2 (by omega) (by omega), e c1 4 _ z2.1 (by omega) (by omega), e c2 8 _ z2.2 (by omega) (by omega)⟩, z3.1, z3.2, z4.1, z4.2, z5⟩
theorem dn_1 {x : Nat} (h : 1 ≤ x) : doneV x b c1 c2 = doneV 1 b c1 c2 ∧ doneV nw x c1 c2 = doneV nw 1 c1 c2 ∧ doneV nw b x c2 = doneV nw b 1 c2 ∧ doneV nw b c1 x = doneV nw b c1 1 := by
  unfold doneV
  rw [if_neg (show ¬ x = 0 by omega), if_neg (show ¬ x = 0 by omega), if_neg (show ¬ x = 0 by omega), if_neg (show ¬ x = 0 by omega)]
  exact ⟨rfl, rfl, rfl, rfl⟩
end
end
