/-! RULES: a pure picture of their worth -/
noncomputable def opS (v : Nat) (a b : Int32) : Int32 :=
  if v = 10011 then (if a = 0 then (if b = 0 then 0 else 1) else 1) else if v = 10012 then (if a = 0 then 0 else if b = 0 then 0 else 1) else if v = 10013 then (if b ≤ a then 0 else 1) else if v = 10014 then (if a = b then 1 else 0) else if v = 10015 then a + b else if v = 10016 then a - b else if v = 10017 then a * b else (if b = 0 then 0 else a / b)
theorem x_join {N v : Nat} {S : gS} {a b : Int32} (h1 : 10011 ≤ v) (h2 : v ≤ 10018) : fX4_join N (nI v) a b S = some (opS v a b, S) := by
  unfold fX4_join
  rcases (show v = 10011 ∨ v = 10012 ∨ v = 10013 ∨ v = 10014 ∨ v = 10015 ∨ v = 10016 ∨ v = 10017 ∨ v = 10018 by omega) with rfl | rfl | rfl | rfl | rfl | rfl | rfl | rfl
  · show fX4_join_b44 N a b S = some ((if a = 0 then (if b = 0 then 0 else 1) else 1), S)
    unfold fX4_join_b44 fX4_join_b48
    by_cases ha : a = 0
    · rw [if_pos ha, if_pos ha]
      by_cases hb : b = 0
      · rw [if_pos hb, if_pos hb]; rfl
      · rw [if_neg hb, if_neg hb]; rfl
    · rw [if_neg ha, if_neg ha]; rfl
  · show fX4_join_b58 N a b S = some ((if a = 0 then 0 else if b = 0 then 0 else 1), S)
    unfold fX4_join_b58 fX4_join_b62
    by_cases ha : a = 0
    · rw [if_pos ha, if_pos ha]; rfl
    · rw [if_neg ha, if_neg ha]
      by_cases hb : b = 0
      · rw [if_pos hb, if_pos hb]; rfl
      · rw [if_neg hb, if_neg hb]; rfl
  · show fX4_join_b72 N a b S = some ((if b ≤ a then 0 else 1), S)
    unfold fX4_join_b72
    by_cases ha : b ≤ a
    · rw [if_pos ha, if_pos ha]; rfl
    · rw [if_neg ha, if_neg ha]; rfl
  · show fX4_join_b83 N a b S = some ((if a = b then 1 else 0), S)
    unfold fX4_join_b83
    by_cases ha : a = b
    · rw [if_pos ha, if_pos ha]; rfl
    · rw [if_neg ha, if_neg ha]; rfl
  · rfl
  · rfl
  · rfl
  · show fX4_join_b106 N a b S = some ((if b = 0 then 0 else a / b), S)
    unfold fX4_join_b106
    by_cases hb : b = 0
    · rw [if_pos hb, if_pos hb]; rfl
    · rw [if_neg hb, if_neg hb]
      unfold fX4_join_b114
      rw [chk_t (show nz b = true from decide_eq_true hb)]
      rfl
theorem m_reckon {N v : Nat} {S : gS} {a b : Int32} (h1 : 10011 ≤ v) (h2 : v ≤ 10018) : fX12_reckon N (sgn (nI v)) a b S = some (opS v a b, S) := by
  unfold fX12_reckon
  rcases (show v = 10011 ∨ v = 10012 ∨ v = 10013 ∨ v = 10014 ∨ v = 10015 ∨ v = 10016 ∨ v = 10017 ∨ v = 10018 by omega) with rfl | rfl | rfl | rfl | rfl | rfl | rfl | rfl
  · show fX12_reckon_b104 N a b S = some ((if a = 0 then (if b = 0 then 0 else 1) else 1), S)
    unfold fX12_reckon_b104 fX12_reckon_b108
    by_cases ha : a = 0
    · rw [if_pos ha, if_pos ha]
      by_cases hb : b = 0
      · rw [if_pos hb, if_pos hb]; rfl
      · rw [if_neg hb, if_neg hb]; rfl
    · rw [if_neg ha, if_neg ha]; rfl
  · show fX12_reckon_b90 N a b S = some ((if a = 0 then 0 else if b = 0 then 0 else 1), S)
    unfold fX12_reckon_b90 fX12_reckon_b94
    by_cases ha : a = 0
    · rw [if_pos ha, if_pos ha]; rfl
    · rw [if_neg ha, if_neg ha]
      by_cases hb : b = 0
      · rw [if_pos hb, if_pos hb]; rfl
      · rw [if_neg hb, if_neg hb]; rfl
  · show fX12_reckon_b68 N a b S = some ((if b ≤ a then 0 else 1), S)
    unfold fX12_reckon_b68
    by_cases ha : b ≤ a
    · rw [if_pos ha, if_pos ha]; rfl
    · rw [if_neg ha, if_neg ha]; rfl
  · show fX12_reckon_b79 N a b S = some ((if a = b then 1 else 0), S)
    unfold fX12_reckon_b79
    by_cases ha : a = b
    · rw [if_pos ha, if_pos ha]; rfl
    · rw [if_neg ha, if_neg ha]; rfl
  · rfl
  · rfl
  · rfl
  · show fX12_reckon_b56 N a b S = some ((if b = 0 then 0 else a / b), S)
    unfold fX12_reckon_b56
    by_cases hb : b = 0
    · rw [if_pos hb, if_pos hb]; rfl
    · rw [if_neg hb, if_neg hb]
      unfold fX12_reckon_b64
      rw [chk_t (show nz b = true from decide_eq_true hb)]
      rfl
/-! the row of what is held, code by code -/
noncomputable def rStep (c : Nat → Int32) (a : Nat → Int32) (d : Nat) (row : Nat → Int32) (i : Nat) : Nat → Int32 :=
  if c i < 10010 then upd row d (if c i ≤ 9999 then c i else a ((c i).toNatClampNeg - 10000)) else if c i = 10010 then upd row (d - 1) (if row (d - 1) = 0 then 1 else 0) else upd row (d - 2) (opS (c i).toNatClampNeg (row (d - 2)) (row (d - 1)))
noncomputable def rRow (c : Nat → Int32) (a : Nat → Int32) (row : Nat → Int32) : Nat → Nat → Int32
  | 0 => row
  | i + 1 => rStep c a (rDep c i) (rRow c a row i) i
/-- the rows of two sides agree as far as they are held -/
theorem rRow_eq {c a : Nat → Int32} {r r' : Nat → Int32} {n : Nat} (ok : ∀ i, i < n → ((0 ≤ c i ∧ c i ≤ 10006) ∧ rDep c i < 31) ∨ (c i = 10010 ∧ 1 ≤ rDep c i) ∨ ((10011 ≤ c i ∧ c i ≤ 10018) ∧ 2 ≤ rDep c i)) : ∀ i, i ≤ n → ∀ j, j < rDep c i → rRow c a r i j = rRow c a r' i j := by
  intro i
  induction i with
  | zero => intro _ j hj; exact absurd hj (Nat.not_lt_zero _)
  | succ i ih =>
    intro hi j hj
    have IH := ih (by omega)
    show rStep c a (rDep c i) (rRow c a r i) i j = rStep c a (rDep c i) (rRow c a r' i) i j
    have hj : j < (if c i < 10010 then rDep c i + 1 else if c i = 10010 then rDep c i else rDep c i - 1) := hj
    unfold rStep
    rcases ok i (by omega) with ⟨⟨h1, h2⟩, h3⟩ | ⟨h1, h2⟩ | ⟨⟨h1, h2⟩, h3⟩
    · have hl : c i < 10010 := by
        rw [Int32.lt_iff_toInt_lt]
        rw [Int32.le_iff_toInt_le] at h2
        have e1 : (10006 : Int32).toInt = 10006 := rfl
        have e2 : (10010 : Int32).toInt = 10010 := rfl
        omega
      rw [if_pos hl] at hj ⊢
      rw [if_pos hl]
      unfold upd
      by_cases hd : j = rDep c i
      · rw [if_pos hd, if_pos hd]
      · rw [if_neg hd, if_neg hd]
        exact IH j (by omega)
    · have hl : ¬ c i < 10010 := by rw [h1]; decide
      rw [if_neg hl, if_pos h1] at hj ⊢
      rw [if_neg hl, if_pos h1]
      unfold upd
      by_cases hd : j = rDep c i - 1
      · rw [if_pos hd, if_pos hd, IH (rDep c i - 1) (by omega)]
      · rw [if_neg hd, if_neg hd]
        exact IH j (by omega)
    · have e1 : (10011 : Int32).toInt = 10011 := rfl
      have e2 : (10010 : Int32).toInt = 10010 := rfl
      have hl : ¬ c i < 10010 := by
        rw [Int32.lt_iff_toInt_lt]
        rw [Int32.le_iff_toInt_le] at h1
        omega
      have hn : ¬ c i = 10010 := fun q => by
        rw [q] at h1
        exact absurd h1 (by decide)
      rw [if_neg hl, if_neg hn] at hj ⊢
      rw [if_neg hl, if_neg hn]
      unfold upd
      by_cases hd : j = rDep c i - 2
      · rw [if_pos hd, if_pos hd, IH (rDep c i - 2) (by omega), IH (rDep c i - 1) (by omega)]
      · rw [if_neg hd, if_neg hd]
        exact IH j (by omega)
theorem rDep_lt {c : Nat → Int32} {n : Nat} (ok : ∀ i, i < n → ((0 ≤ c i ∧ c i ≤ 10006) ∧ rDep c i < 31) ∨ (c i = 10010 ∧ 1 ≤ rDep c i) ∨ ((10011 ≤ c i ∧ c i ≤ 10018) ∧ 2 ≤ rDep c i)) : ∀ i, i ≤ n → rDep c i ≤ 31 := by
  intro i
  induction i with
  | zero => intro _; exact Nat.zero_le _
  | succ i ih =>
    intro hi
    have IH := ih (by omega)
    show (if c i < 10010 then rDep c i + 1 else if c i = 10010 then rDep c i else rDep c i - 1) ≤ 31
    rcases ok i (by omega) with ⟨⟨h1, h2⟩, h3⟩ | ⟨h1, h2⟩ | ⟨⟨h1, h2⟩, h3⟩
    · by_cases hl : c i < 10010
      · rw [if_pos hl]
        omega
      · rw [if_neg hl]
        by_cases hn : c i = 10010
        · rw [if_pos hn]; omega
        · rw [if_neg hn]; omega
    · rw [if_neg (by rw [h1]; decide), if_pos h1]
      exact IH
    · by_cases hl : c i < 10010
      · exfalso
        have e1 : (10011 : Int32).toInt = 10011 := rfl
        have e2 : (10010 : Int32).toInt = 10010 := rfl
        rw [Int32.lt_iff_toInt_lt] at hl
        rw [Int32.le_iff_toInt_le] at h1
        omega
      · rw [if_neg hl]
        by_cases hn : c i = 10010
        · rw [if_pos hn]; omega
        · rw [if_neg hn]; omega
/-- a node's row put anew -/
noncomputable def sN (S : gS) (a : Nat) (r : Nat → Int32) : gS := fun i => if i = a then r else S i
theorem sN_up (S : gS) (a b : Nat) (r : Nat → Int32) (x : Int32) : sU (sN S a r) a b x = sN S a (upd r b x) := by
  funext i
  unfold sU sN
  by_cases h : i = a
  · subst h
    rw [if_pos rfl, if_pos rfl]
    simp
  · rw [if_neg h, if_neg h, if_neg h]
theorem sN_self (S : gS) (a : Nat) : sN S a (S a) = S := by
  funext i
  unfold sN
  by_cases h : i = a
  · rw [if_pos h, h]
  · rw [if_neg h]
theorem sN_s {S : gS} {a : Nat} {r : Nat → Int32} : sN S a r a = r := if_pos rfl
theorem sN_n {S : gS} {a i : Nat} {r : Nat → Int32} (h : i ≠ a) : sN S a r i = S i := if_neg h
