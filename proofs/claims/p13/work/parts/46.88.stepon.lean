theorem kd_m : ∀ b, b < 256 → ((nI b = 32 ∨ nI b = 10) ↔ kd b = 5) ∧ ((¬ nI b < 97 ∧ ¬ 122 < nI b) ↔ kd b = 1) ∧ ((¬ nI b < 48 ∧ ¬ 57 < nI b) ↔ kd b = 2) ∧ ((nI b = 59 ∨ nI b = 40 ∨ nI b = 41 ∨ nI b = 43 ∨ nI b = 45 ∨ nI b = 42 ∨ nI b = 47 ∨ nI b = 60 ∨ nI b = 61) ↔ kd b = 3) := by decide +kernel
section
variable {B : Nat → Nat} {n s p k N : Nat} {S SM : gS}
theorem m_byteAt {q : Nat} (b : byM B n S) (h2 : S 99 22 = nI n) (hq : q ≤ n) : fX12_byteAt N (nI q) S = some ((if q < n then nI (B q) else -1), S) := by
  have b7 := b.1
  unfold fX12_byteAt fX12_byteAt_b0
  rw [h2]
  by_cases z : q < n
  · rw [if_neg (nI_ge z (by omega)), if_pos z]
    unfold fX12_byteAt_b8
    rw [chk_t (inb_t (by omega) (by decide)), nI_clamp (by omega), (b.2 q z).2]
    rfl
  · rw [if_pos (nI_le (by omega) (by omega)), if_neg z]
    rfl
theorem m_isLetter {b : Nat} (hb : b < 256) : fX12_isLetter N (nI b) S = some (iv (decide (kd b = 1)), S) := by
  have h := (kd_m b hb).2.1
  unfold fX12_isLetter fX12_isLetter_b0
  by_cases h1 : nI b < 97
  · rw [if_pos h1, decide_eq_false (fun z => (h.mpr z).1 h1)]; rfl
  · rw [if_neg h1]
    unfold fX12_isLetter_b6
    by_cases h2 : 122 < nI b
    · rw [if_pos h2, decide_eq_false (fun z => (h.mpr z).2 h2)]; rfl
    · rw [if_neg h2, decide_eq_true (h.mp ⟨h1, h2⟩)]; rfl
theorem m_isDigit {b : Nat} (hb : b < 256) : fX12_isDigit N (nI b) S = some (iv (decide (kd b = 2)), S) := by
  have h := (kd_m b hb).2.2.1
  unfold fX12_isDigit fX12_isDigit_b0
  by_cases h1 : nI b < 48
  · rw [if_pos h1, decide_eq_false (fun z => (h.mpr z).1 h1)]; rfl
  · rw [if_neg h1]
    unfold fX12_isDigit_b6
    by_cases h2 : 57 < nI b
    · rw [if_pos h2, decide_eq_false (fun z => (h.mpr z).2 h2)]; rfl
    · rw [if_neg h2, decide_eq_true (h.mp ⟨h1, h2⟩)]; rfl
theorem m_isMark {b : Nat} (hb : b < 256) : fX12_isMark N (nI b) S = some (iv (decide (kd b = 3)), S) := by
  have h := (kd_m b hb).2.2.2
  unfold fX12_isMark fX12_isMark_b0
  by_cases h1 : nI b = 59
  · rw [if_pos h1, decide_eq_true (h.mp (Or.inl h1))]; rfl
  rw [if_neg h1]
  unfold fX12_isMark_b6
  by_cases h2 : nI b = 40
  · rw [if_pos h2, decide_eq_true (h.mp (by simp [h2]))]; rfl
  rw [if_neg h2]
  unfold fX12_isMark_b12
  by_cases h3 : nI b = 41
  · rw [if_pos h3, decide_eq_true (h.mp (by simp [h3]))]; rfl
  rw [if_neg h3]
  unfold fX12_isMark_b18
  by_cases h4 : nI b = 43
  · rw [if_pos h4, decide_eq_true (h.mp (by simp [h4]))]; rfl
  rw [if_neg h4]
  unfold fX12_isMark_b24
  by_cases h5 : nI b = 45
  · rw [if_pos h5, decide_eq_true (h.mp (by simp [h5]))]; rfl
  rw [if_neg h5]
  unfold fX12_isMark_b30
  by_cases h6 : nI b = 42
  · rw [if_pos h6, decide_eq_true (h.mp (by simp [h6]))]; rfl
  rw [if_neg h6]
  unfold fX12_isMark_b36
  by_cases h7 : nI b = 47
  · rw [if_pos h7, decide_eq_true (h.mp (by simp [h7]))]; rfl
  rw [if_neg h7]
  unfold fX12_isMark_b42
  by_cases h8 : nI b = 60
  · rw [if_pos h8, decide_eq_true (h.mp (by simp [h8]))]; rfl
  rw [if_neg h8]
  unfold fX12_isMark_b48
  by_cases h9 : nI b = 61
  · rw [if_pos h9, decide_eq_true (h.mp (by simp [h9]))]; rfl
  rw [if_neg h9, decide_eq_false (fun z => by
    have := h.mpr z
    simp only [h1, h2, h3, h4, h5, h6, h7, h8, h9, or_self] at this)]
  rfl
theorem m_st0 : ∀ (m p f : Nat) (S : gS), p + m = n → m < f → byM B n S → S 99 22 = nI n → S 99 21 = nI p → ∃ S', fX12_stepOn_h0 5000 f S = fX12_stepOn_b39 5000 S' ∧ S' 99 21 = nI (ruP (kdB B 5) m p) ∧ oSame mTk S S' := by
  intro m
  induction m with
  | zero =>
    intro p f S hp hf b h2 h3
    obtain ⟨f, rfl⟩ : ∃ f', f = f' + 1 := ⟨f - 1, by omega⟩
    refine ⟨S, ?_, h3, oSame.rf⟩
    show fX12_stepOn_b0 5000 _ S = _
    unfold fX12_stepOn_b0
    rw [h3, bnd_t (m_byteAt b h2 (by omega)), if_neg (show ¬ p < n by omega)]
    show fX12_stepOn_b13 5000 _ S = _
    unfold fX12_stepOn_b13
    rw [h3, bnd_t (m_byteAt b h2 (by omega)), if_neg (show ¬ p < n by omega)]
    rfl
  | succ m ih =>
    intro p f S hp hf b h2 h3
    obtain ⟨f, rfl⟩ : ∃ f', f = f' + 1 := ⟨f - 1, by omega⟩
    have b7 := b.1
    obtain ⟨c1, c2⟩ := b.2 p (by omega)
    have hk := (kd_m (B p) c1).1
    have hF : fX12_stepOn_h0 5000 (f + 1) S = if kd (B p) = 5 then fX12_stepOn_h0 5000 f (sU S 99 21 (nI (p + 1))) else fX12_stepOn_b39 5000 S := by
      have b26 : fX12_stepOn_b26 5000 (fX12_stepOn_h0 5000 f) S = fX12_stepOn_h0 5000 f (sU S 99 21 (nI (p + 1))) := by
        unfold fX12_stepOn_b26
        dsimp only [lt]
        rw [h3, nI_1 p]
      show fX12_stepOn_b0 5000 (fX12_stepOn_h0 5000 f) S = _
      unfold fX12_stepOn_b0
      rw [h3, bnd_t (m_byteAt b h2 (by omega)), if_pos (show p < n by omega)]
      dsimp only
      by_cases q1 : nI (B p) = 32
      · rw [if_pos q1, if_pos (hk.mp (Or.inl q1)), b26]
      · rw [if_neg q1]
        unfold fX12_stepOn_b13
        rw [h3, bnd_t (m_byteAt b h2 (by omega)), if_pos (show p < n by omega)]
        dsimp only
        by_cases q2 : nI (B p) = 10
        · rw [if_pos q2, if_pos (hk.mp (Or.inr q2)), b26]
        · rw [if_neg q2, if_neg (fun z => (hk.mpr z).elim q1 q2)]
    rw [hF]
    by_cases q : kd (B p) = 5
    · have qc : kdB B 5 p = true := decide_eq_true q
      rw [if_pos q, ruP_t qc]
      obtain ⟨S', e1, e3, e4⟩ := ih (p + 1) f (sU S 99 21 (nI (p + 1))) (by omega) (by omega) (b.on (oSame.rf.up rfl)) (by rw [sU_n (by omega)]; exact h2) (by rw [sU_ap, if_pos ⟨rfl, rfl⟩])
      exact ⟨S', e1, e3, (oSame.rf.up rfl).tr e4⟩
    · have qc : kdB B 5 p = false := decide_eq_false q
      rw [if_neg q, ruP_f qc]
      exact ⟨S, rfl, h3, oSame.rf⟩
theorem m_st76 : ∀ (m q f : Nat) (S : gS), q + m = n → m < f → byM B n S → S 99 22 = nI n → S 99 21 = nI q → ∃ S', fX12_stepOn_h76 5000 f S = fX12_stepOn_b103 5000 S' ∧ S' 99 21 = nI (ruP (kdB B 1) m q) ∧ (∀ i j, ¬ (i = 99 ∧ j = 21) → S' i j = S i j) := by
  intro m
  induction m with
  | zero =>
    intro q f S hp hf b h2 h3
    obtain ⟨f, rfl⟩ : ∃ f', f = f' + 1 := ⟨f - 1, by omega⟩
    refine ⟨S, ?_, h3, fun _ _ _ => rfl⟩
    show fX12_stepOn_b76 5000 _ S = _
    unfold fX12_stepOn_b76
    rw [h3, bnd_t (m_byteAt b h2 (by omega)), if_neg (show ¬ q < n by omega)]
    rfl
  | succ m ih =>
    intro q f S hp hf b h2 h3
    obtain ⟨f, rfl⟩ : ∃ f', f = f' + 1 := ⟨f - 1, by omega⟩
    obtain ⟨c1, c2⟩ := b.2 q (by omega)
    have hF : fX12_stepOn_h76 5000 (f + 1) S = if iv (decide (kd (B q) = 1)) = 0 then fX12_stepOn_b103 5000 S else fX12_stepOn_h76 5000 f (sU S 99 21 (nI (q + 1))) := by
      show fX12_stepOn_b76 5000 (fX12_stepOn_h76 5000 f) S = _
      unfold fX12_stepOn_b76
      rw [h3, bnd_t (m_byteAt b h2 (by omega)), if_pos (show q < n by omega)]
      dsimp only
      rw [bnd_t (m_isLetter c1)]
      unfold fX12_stepOn_b90
      dsimp only [lt]
      rw [h3, nI_1 q]
    rw [hF]
    by_cases z : kd (B q) = 1
    · rw [decide_eq_true z, ruP_t (show kdB B 1 q = true from decide_eq_true z)]
      obtain ⟨S', e1, e3, e4⟩ := ih (q + 1) f (sU S 99 21 (nI (q + 1))) (by omega) (by omega) (b.on (oSame.rf.up rfl)) (by rw [sU_n (by omega)]; exact h2) (by rw [sU_ap, if_pos ⟨rfl, rfl⟩])
      exact ⟨S', e1, e3, fun i j y => by rw [e4 i j y, sU_n y]⟩
    · rw [decide_eq_false z, ruP_f (show kdB B 1 q = false from decide_eq_false z)]
      exact ⟨S, rfl, h3, fun _ _ _ => rfl⟩
theorem m_st123 : ∀ (m q f : Nat) (S : gS), q + m = n → m < f → s ≤ q → (∀ i, s ≤ i → i < q → kd (B i) = 2) → byM B n S → S 99 22 = nI n → S 99 21 = nI q → (q - s ≤ 4 → S 99 24 = nI (nuN B s (q - s))) → ∃ S', fX12_stepOn_h123 5000 f S = fX12_stepOn_b178 5000 S' ∧ S' 99 21 = nI (ruP (kdB B 2) m q) ∧ (ruP (kdB B 2) m q - s ≤ 4 → S' 99 24 = nI (nuN B s (ruP (kdB B 2) m q - s))) ∧ (∀ i j, ¬ (i = 99 ∧ (j = 21 ∨ j = 24)) → S' i j = S i j) := by
  intro m
  induction m with
  | zero =>
    intro q f S hp hf hs hall b h2 h3 h4
    obtain ⟨f, rfl⟩ : ∃ f', f = f' + 1 := ⟨f - 1, by omega⟩
    refine ⟨S, ?_, h3, h4, fun _ _ _ => rfl⟩
    show fX12_stepOn_b123 5000 _ S = _
    unfold fX12_stepOn_b123
    rw [h3, bnd_t (m_byteAt b h2 (by omega)), if_neg (show ¬ q < n by omega)]
    rfl
  | succ m ih =>
    intro q f S hp hf hs hall b h2 h3 h4
    obtain ⟨f, rfl⟩ : ∃ f', f = f' + 1 := ⟨f - 1, by omega⟩
    obtain ⟨c1, c2⟩ := b.2 q (by omega)
    obtain ⟨V, hV⟩ : ∃ z : Int32, z = (if ((((10 * (S 99 24)) + nI (B q)) - 48)) < 100000 then (((10 * (S 99 24)) + nI (B q)) - 48) else 100000) := ⟨_, rfl⟩
    have hF : fX12_stepOn_h123 5000 (f + 1) S = if iv (decide (kd (B q) = 2)) = 0 then fX12_stepOn_b178 5000 S else fX12_stepOn_h123 5000 f (sU (sU S 99 24 V) 99 21 (nI (q + 1))) := by
      show fX12_stepOn_b123 5000 (fX12_stepOn_h123 5000 f) S = _
      unfold fX12_stepOn_b123
      rw [h3, bnd_t (m_byteAt b h2 (by omega)), if_pos (show q < n by omega)]
      dsimp only
      rw [bnd_t (m_isDigit c1)]
      unfold fX12_stepOn_b137
      dsimp only
      rw [h3, bnd_t (m_byteAt b h2 (by omega)), if_pos (show q < n by omega)]
      dsimp only [lt]
      rw [← hV, show sU S 99 24 V 99 21 = nI q by rw [sU_n (by omega)]; exact h3, nI_1 q]
    rw [hF]
    by_cases z : kd (B q) = 2
    · rw [decide_eq_true z, ruP_t (show kdB B 2 q = true from decide_eq_true z)]
      obtain ⟨S', e1, e3, e4, e5⟩ := ih (q + 1) f (sU (sU S 99 24 V) 99 21 (nI (q + 1))) (by omega) (by omega) (by omega) (fun i y1 y2 => by
        by_cases w : i = q
        · rw [w]; exact z
        · exact hall i y1 (by omega)) (b.on ((oSame.rf.up rfl).up rfl)) (by rw [sU_n (by omega), sU_n (by omega)]; exact h2) (by rw [sU_ap, if_pos ⟨rfl, rfl⟩]) (fun z2 => by
          have hd : ∀ j, j < q - s → 48 ≤ B (s + j) ∧ B (s + j) ≤ 57 := fun j hj => kd2 _ (b.2 _ (by omega)).1 (hall _ (by omega) (by omega))
          have hl := nuN_lt (B := B) (s := s) (q - s) hd
          have hp : (10 : Nat) ^ (q - s) ≤ 10 ^ 3 := Nat.pow_le_pow_right (by decide) (by omega)
          have h48 := kd2 _ c1 z
          have eV : ((10 * (S 99 24)) + nI (B q)) - 48 = nI (nuN B s (q - s) * 10 + (B q - 48)) := by
            rw [h4 (by omega), show (10 : Int32) = nI 10 from rfl, pk_mul, nI_add, show (48 : Int32) = nI 48 from rfl, pk_sub (by omega)]
            rw [show 10 * nuN B s (q - s) + B q - 48 = nuN B s (q - s) * 10 + (B q - 48) by omega]
          rw [sU_n (by omega), sU_ap, if_pos ⟨rfl, rfl⟩, hV, eV, if_pos (show nI (nuN B s (q - s) * 10 + (B q - 48)) < 100000 from nI_lt (b := 100000) (by omega) (by decide)), show q + 1 - s = (q - s) + 1 by omega]
          show _ = nI (nuN B s (q - s) * 10 + (B (s + (q - s)) - 48))
          rw [show s + (q - s) = q by omega])
      exact ⟨S', e1, e3, e4, fun i j y => by rw [e5 i j y, sU_n (by omega), sU_n (by omega)]⟩
    · rw [decide_eq_false z, ruP_f (show kdB B 2 q = false from decide_eq_false z)]
      exact ⟨S, rfl, h3, h4, fun _ _ _ => rfl⟩
end
