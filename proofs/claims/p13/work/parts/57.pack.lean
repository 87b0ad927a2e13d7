/-! part 972.lines -/
section
/-! the LINES: the draft of the class against the reference's halves -/
section
variable {B : Nat → Nat} {n s p k N : Nat} {S SM : gS}
/-- behind a FAULT a number is not read: both stay -/
theorem j_num0 {lo hi : Nat} (T : tkJ B n s p k S SM) (h : flt S SM) : fX3_readNumber 5000 (nI lo) (nI hi) S = some (S 2 6, S) ∧ fX12_readNumber 5000 (nI lo) (nI hi) SM = some (0, SM) := by
  obtain ⟨f1, f2, f3⟩ := flt_x (N := 5000) h
  have b39 : fX3_readNumber_b39 5000 S = some (S 2 6, S) := by
    unfold fX3_readNumber_b39
    rw [bnd_t f1]
    rfl
  refine ⟨?_, ?_⟩
  · unfold fX3_readNumber fX3_readNumber_b0
    by_cases q : S 2 4 = 2
    · rw [if_pos q]
      unfold fX3_readNumber_b19
      rw [bnd_t x_isWithin]
      cases wth (S 2 6) (nI lo) (nI hi) with
      | false =>
        show fX3_readNumber_b34 5000 S = _
        unfold fX3_readNumber_b34
        rw [bnd_t (f3 2)]
        exact b39
      | true => exact b39
    · rw [if_neg q]
      unfold fX3_readNumber_b11
      rw [bnd_t (f3 1)]
      exact b39
  · have e : fX12_numberNow 5000 (nI lo) (nI hi) SM = some (0, SM) := by
      unfold fX12_numberNow fX12_numberNow_b0
      rw [if_neg f2]
      rfl
    unfold fX12_readNumber fX12_readNumber_b0
    rw [bnd_t e]
    show (if SM 99 27 = 0 then _ else _) = _
    rw [if_neg f2]
    rfl
/-- one more of some: told in w, at most mo -/
theorem m_another {w c mo : Nat} (hw : w < 6) (hc : c ≤ mo) (hm : mo ≤ 8) (h5 : SM 5 (6 + w) = nI c) : fX12_another 5000 (nI w) (nI mo) SM = if c = mo then bnd (fX12_wrong 5000 2 SM) (fun q1 => fX12_another_b18 5000 q1.2) else fX12_another_b18 5000 SM := by
  unfold fX12_another fX12_another_b0
  rw [show (6 : Int32) = nI 6 from rfl, nI_add, chk_t (inb_t (by omega) (by decide)), nI_clamp (by omega), h5]
  by_cases q : c = mo
  · rw [if_pos q, q, if_pos rfl]
    rfl
  · rw [if_neg q, if_neg (fun z => q ((nI_eq (by omega) (by omega)).mp z))]
/-- the draft: T its cell; g0 GROTTOES, g1 GUILDS, nw wets, b the bound, c1 c2 codes of the rules, tk the grottoes taken -/
def drJ (T g0 g1 nw b c1 c2 tk : Nat) (S SM : gS) : Prop :=
  (T = 72 ∨ T = 4) ∧
  (S T 0 = nI g0 ∧ SM 5 6 = nI g0 ∧ g0 ≤ 8) ∧ (S T 5 = nI g1 ∧ SM 5 7 = nI g1 ∧ g1 ≤ 6) ∧
  (S T 10 = nI nw ∧ SM 5 9 = nI nw ∧ nw ≤ 8 ∧ ∀ i, i < nw → ∃ x : Nat, x ≤ 9 ∧ S (T + 9) i = nI x ∧ SM 14 (8 + i) = nI x) ∧
  (S T 12 = nI b ∧ b ≤ 99 ∧ SM 5 8 = if b = 0 then 70 else nI b) ∧
  (∀ q, q < g0 → (∃ x : Nat, 1 ≤ x ∧ x ≤ 12 ∧ S (T + 1) q = nI x ∧ SM 7 (8 + q) = nI x) ∧ (∃ x : Nat, x ≤ 11 ∧ S (T + 2) q = nI x ∧ SM 8 (8 + q) = nI x) ∧ (∃ x : Nat, x ≤ 20 ∧ S (T + 3) q = nI x ∧ SM 9 (8 + q) = nI x) ∧ (∃ x : Nat, x ≤ 1 ∧ S (T + 4) q = nI x ∧ SM 6 (8 + q) = nI x)) ∧
  (∀ g, g < g1 → (∃ x : Nat, x ≤ 9 ∧ S (T + 5) g = nI x ∧ SM 10 (6 + g) = nI x) ∧ (∃ x : Nat, x ≤ 99 ∧ S (T + 6) g = nI x ∧ SM 11 (6 + g) = nI x) ∧ (∃ x : Nat, x ≤ 999 ∧ S (T + 7) g = nI x ∧ SM 12 (6 + g) = nI x) ∧ S (T + 8) g = SM 13 (6 + g) ∧ (S (T + 8) g = -1 ∨ ∃ q : Nat, q < g0 ∧ S (T + 8) g = nI q)) ∧
  (∀ g g', g < g1 → g' < g1 → S (T + 8) g = S (T + 8) g' → S (T + 8) g ≠ -1 → g = g') ∧
  (SM 99 30 = nI tk ∧ tk < 256 ∧ ∀ q, q < 8 → (tk.testBit q = true ↔ ∃ g, g < g1 ∧ S (T + 8) g = nI q)) ∧
  (∃ D1, rlJ (T + 10) 10 15 c1 D1 S SM ∧ (c1 = 0 ∨ D1 = 1)) ∧ (∃ D2, rlJ (T + 13) 11 16 c2 D2 S SM ∧ (c2 = 0 ∨ D2 = 1)) ∧ (S (T + 10) 2 = 0 ∧ S (T + 13) 2 = 1)
noncomputable def doneV (nw b c1 c2 : Nat) : Int32 := nI ((if nw = 0 then 0 else 1) + (if b = 0 then 0 else 2) + (if c1 = 0 then 0 else 4) + (if c2 = 0 then 0 else 8))
end
end
