/-! tokens: both sides go over the same bytes -/
def kd (b : Nat) : Nat := if b = 32 then 5 else if b = 10 then 5 else if 97 ≤ b ∧ b ≤ 122 then 1 else if 48 ≤ b ∧ b ≤ 57 then 2 else if b = 59 ∨ b = 40 ∨ b = 41 ∨ b = 43 ∨ b = 45 ∨ b = 42 ∨ b = 47 ∨ b = 60 ∨ b = 61 then 3 else 4
theorem kd_x : ∀ b, b < 256 → (if nI b = 32 then (5 : Int32) else if nI b = 10 then 5 else if (nI b < 97 ∨ 122 < nI b) then (if (nI b < 48 ∨ 57 < nI b) then (if kd b = 3 then 3 else 4) else 2) else 1) = nI (kd b) ∧ ((Int32.toUInt32 (nI b) % 65536).toInt32) = nI b ∧ kd b ≤ 5 ∧ 1 ≤ kd b := by decide +kernel
theorem x_at {N j : Nat} {S : gS} (h : j < 700) : fX8_at N (nI j) S = some (S 3 j &&& 255, S) := by
  unfold fX8_at fX8_at_b0
  rw [if_neg (nI_pos (by omega))]
  unfold fX8_at_b4
  rw [if_neg (show ¬ (700 : Int32) ≤ nI j from nI_ge (b := 700) h (by decide))]
  unfold fX8_at_b13
  rw [chk_t (inb_t h (by decide)), nI_clamp (by omega)]
  rfl
theorem ixc_h {N : Nat} {S : gS} {x : Int32} : ∀ (m j f : Nat), j + m = 9 → m < f → ∃ r, fJ1_indexOfChar_4cfef_h7 N f 1 9 x (nI j) S = some (r, S) ∧ (r < 0 ↔ ∀ i, j ≤ i → i < 9 → ¬ sByt 1 i = x) := by
  intro m
  induction m with
  | zero =>
    intro j f h hf
    obtain ⟨f, rfl⟩ : ∃ f', f = f' + 1 := ⟨f - 1, by omega⟩
    obtain rfl : j = 9 := by omega
    refine ⟨-1, ?_, ⟨fun _ i a b => absurd a (by omega), fun _ => by decide⟩⟩
    show fJ1_indexOfChar_4cfef_b7 N _ 1 9 x (nI 9) S = _
    unfold fJ1_indexOfChar_4cfef_b7
    rw [if_pos (by decide)]
    rfl
  | succ m ih =>
    intro j f h hf
    obtain ⟨f, rfl⟩ : ∃ f', f = f' + 1 := ⟨f - 1, by omega⟩
    have hF : fJ1_indexOfChar_4cfef_h7 N (f + 1) 1 9 x (nI j) S = if sByt 1 j = x then some (nI j, S) else fJ1_indexOfChar_4cfef_h7 N f 1 9 x (nI (j + 1)) S := by
      show fJ1_indexOfChar_4cfef_b7 N (fJ1_indexOfChar_4cfef_h7 N f) 1 9 x (nI j) S = _
      unfold fJ1_indexOfChar_4cfef_b7
      rw [if_neg (show ¬ (9 : Int32) ≤ nI j from nI_ge (b := 9) (by omega) (by decide))]
      unfold fJ1_indexOfChar_4cfef_b13
      rw [chk_t (show inb (nI j) (sLen 1) = true from inb_t (show j < 9 by omega) (by decide)), nI_clamp (by omega)]
      unfold fJ1_indexOfChar_4cfef_b25
      rw [nI_1 j]
      rfl
    rw [hF]
    by_cases q : sByt 1 j = x
    · rw [if_pos q]
      exact ⟨nI j, rfl, ⟨fun z => absurd z (nI_pos (by omega)), fun z => absurd q (z j (Nat.le_refl _) (by omega))⟩⟩
    · rw [if_neg q]
      obtain ⟨r, r1, r2⟩ := ih (j + 1) f (by omega) (by omega)
      refine ⟨r, r1, r2.trans ⟨fun z i a b => ?_, fun z i a b => z i (by omega) b⟩⟩
      by_cases e : i = j
      · rw [e]; exact q
      · exact z i (by omega) b
theorem mk_all : ∀ b, b < 256 → ((∀ i, i < 9 → ¬ sByt 1 i = (Int32.toInt8 (nI b)).toInt32) ↔ ¬ kd b = 3) := by decide +kernel
theorem ce_all : ∀ b, b < 256 → nI b >>> ((8 : Int32) &&& 31) = 0 := by decide +kernel
