/-! part 9792.lines -/
section
section
variable {B : Nat → Nat} {n s p k U g0 g1 nw b c1 c2 tk : Nat} {S SM S' SM' S1 SM1 S2 SM2 : gS}
theorem NUM.lin {G : Prop} {d : Int32} (h : NUM B n s S SM S' SM' G) (hf : flt S' SM') : LIN B n U s S SM S' SM' d := by
  obtain ⟨o1, o2, s', p', k', t, -⟩ := h
  exact ⟨fun i j z _ => o1 i j z, fun i j z _ => o2 i j z, s', p', k', t, Or.inr hf⟩
theorem xEx_n {r i j : Nat} (h : xNu i j = false) (h3 : ¬ (i = r ∧ j = 3)) (h4 : i ≠ r + 1) : xEx r i j = false := by
  show ((xNu i j || (i == r && j == 3)) || i == r + 1) = false
  rw [h, beq_eq_false_iff_ne.mpr h4, Bool.false_or, Bool.or_false, Bool.and_eq_false_iff, beq_eq_false_iff_ne, beq_eq_false_iff_ne]
  omega
theorem mEx_n {w sg i j : Nat} (h : mNu i j = false) (h3 : ¬ (i = 5 ∧ j = w)) (h4 : ¬ (i = sg ∧ 700 ≤ j)) : mEx w sg i j = false := by
  show ((mNu i j || (i == 5 && j == w)) || (i == sg && decide (700 ≤ j))) = false
  rw [h, Bool.false_or, Bool.or_eq_false_iff, Bool.and_eq_false_iff, Bool.and_eq_false_iff, beq_eq_false_iff_ne, beq_eq_false_iff_ne, beq_eq_false_iff_ne, decide_eq_false_iff_not]
  omega
/-- a GROTTO's LINE -/
theorem L_cave {x : Nat} (hx : x ≤ 1) (hd : drK U g0 g1 nw b c1 c2 tk S SM) (hU : xdr S = U) (T : tkJ B n s p k S SM) (F : fine S SM) (k0 : k ≠ 0) : ∃ S' SM', fX3_readGrotto 5000 (nI x) S = some (0, S') ∧ fX12_sayCave 5000 (nI x) SM = some (0, SM') ∧ LIN B n U s S SM S' SM' (doneV nw b c1 c2) := by
  have hT := xdr_cases (S := S)
  rw [hU] at hT
  obtain ⟨⟨q1, q2, q3, q4⟩, d2, d3, d4, d5, d6⟩ := hd
  by_cases hg : g0 < 8
  · obtain ⟨S', SM', a1, a2, X, M, s', p', k', T', h⟩ := j_cave hx T F k0 hg (by rw [hU]; exact q1) q2
    rw [hU] at X h
    replace h : hid _ := h
    refine ⟨S', SM', a1, a2, fun i j z1 z2 => X i j z1 (by omega) (by omega), fun i j z1 z2 => M i j z1 (fun z => z2 (Or.inr (Or.inl (by omega)))) (fun z => z2 (Or.inr (Or.inr (Or.inl (by omega))))), s', p', k', T', ?_⟩
    have X' : ∀ i j, U ≤ i → ¬ (i = U ∧ j = 0) → ¬ ((i = U + 1 ∨ i = U + 2 ∨ i = U + 3 ∨ i = U + 4) ∧ j = g0) → S' i j = S i j := fun i j z1 z2 z3 => X i j (xNu_u (by omega) (by omega)) z2 z3
    have M' : ∀ i j, i ≠ 99 → ¬ (i = 5 ∧ j = 6) → ¬ ((i = 6 ∨ i = 7 ∨ i = 8 ∨ i = 9) ∧ j = 8 + g0) → SM' i j = SM i j := fun i j z1 z2 z3 => M i j (mNu_u z1) z2 z3
    rcases (show _ ∨ _ from h) with ⟨F', e', h0, h5, y1, y2, y3, y4, y5⟩ | h
    · refine Or.inl ⟨F', e', g0 + 1, g1, nw, b, c1, c2, tk, ⟨⟨h0, h5, by omega, fun q hq => ?_⟩, (d2.on (X' _ _ (by omega) (by omega) (by omega)) (fun i j _ _ => X' i j (by omega) (by omega) (by omega)) (M' _ _ (by omega) (by omega) (by omega)) (M 99 30 rfl (by omega) (by omega)) (fun i j _ _ => M' i j (by omega) (by omega) (by omega))).more (by omega), d3.on (X' _ _ (by omega) (by omega) (by omega)) (fun j => X' _ j (by omega) (by omega) (by omega)) (M' _ _ (by omega) (by omega) (by omega)) (fun j => M' _ j (by omega) (by omega) (by omega)), d4.on (X' _ _ (by omega) (by omega) (by omega)) (M' _ _ (by omega) (by omega) (by omega)), d5.on (fun i j _ => X' i j (by omega) (by omega) (by omega)) (M' _ _ (by omega) (by omega) (by omega)) (fun j => M' _ j (by omega) (by omega) (by omega)), d6.on (fun i j _ => X' i j (by omega) (by omega) (by omega)) (M' _ _ (by omega) (by omega) (by omega)) (fun j => M' _ j (by omega) (by omega) (by omega))⟩, rfl⟩
      by_cases e : q = g0
      · subst e
        exact ⟨y1, y2, y3, x, hx, y4, y5⟩
      · rw [X' (U + 1) q (by omega) (by omega) (by omega), X' (U + 2) q (by omega) (by omega) (by omega), X' (U + 3) q (by omega) (by omega) (by omega), X' (U + 4) q (by omega) (by omega) (by omega), M' 7 _ (by omega) (by omega) (by omega), M' 8 _ (by omega) (by omega) (by omega), M' 9 _ (by omega) (by omega) (by omega), M' 6 _ (by omega) (by omega) (by omega)]
        exact q4 q (by omega)
    · exact Or.inr h
  · obtain rfl : g0 = 8 := by omega
    obtain ⟨S', SM', a1, a2, a3, a4⟩ := j_caveF (x := nI x) (x' := nI x) T F (by rw [hU]; exact q1) q2
    exact ⟨S', SM', a1, a2, a4.lin a3⟩
/-- the bound's -/
theorem L_bound (hd : drK U g0 g1 nw 0 c1 c2 tk S SM) (hU : xdr S = U) (T : tkJ B n s p k S SM) (F : fine S SM) (k0 : k ≠ 0) : ∃ S' SM', fX3_readBound 5000 S = some (0, S') ∧ fX12_sayOnce 5000 2 SM = some (0, SM') ∧ LIN B n U s S SM S' SM' (doneV nw 1 c1 c2) := by
  have hT := xdr_cases (S := S)
  rw [hU] at hT
  obtain ⟨d1, d2, d3, d4, d5, d6⟩ := hd
  obtain ⟨S', SM', a1, a2, X, M, s', p', k', T', h⟩ := j_bound T F k0 (by rw [hU]; exact d4.1)
  rw [hU] at X h
  replace h : hid _ := h
  refine ⟨S', SM', a1, a2, fun i j z1 z2 => X i j z1 (by omega), fun i j z1 z2 => M i j z1 (fun z => z2 (Or.inr (Or.inl (by omega)))), s', p', k', T', ?_⟩
  have X' : ∀ i j, U ≤ i → ¬ (i = U ∧ j = 12) → S' i j = S i j := fun i j z1 z2 => X i j (xNu_u (by omega) (by omega)) z2
  have M' : ∀ i j, i ≠ 99 → ¬ (i = 5 ∧ j = 8) → SM' i j = SM i j := fun i j z1 z2 => M i j (mNu_u z1) z2
  rcases (show _ ∨ _ from h) with ⟨F', e', y, y1, y2, y3, y4⟩ | h
  · refine Or.inl ⟨F', e', g0, g1, nw, y, c1, c2, tk, ⟨d1.on (X' _ _ (by omega) (by omega)) (fun i j _ _ => X' i j (by omega) (by omega)) (M' _ _ (by omega) (by omega)) (fun i j _ _ => M' i j (by omega) (by omega)), d2.on (X' _ _ (by omega) (by omega)) (fun i j _ _ => X' i j (by omega) (by omega)) (M' _ _ (by omega) (by omega)) (M 99 30 rfl (by omega)) (fun i j _ _ => M' i j (by omega) (by omega)), d3.on (X' _ _ (by omega) (by omega)) (fun j => X' _ j (by omega) (by omega)) (M' _ _ (by omega) (by omega)) (fun j => M' _ j (by omega) (by omega)), ⟨y3, y2, by rw [if_neg (by omega)]; exact y4⟩, d5.on (fun i j _ => X' i j (by omega) (by omega)) (M' _ _ (by omega) (by omega)) (fun j => M' _ j (by omega) (by omega)), d6.on (fun i j _ => X' i j (by omega) (by omega)) (M' _ _ (by omega) (by omega)) (fun j => M' _ j (by omega) (by omega))⟩, (dn_1 (b := 0) y1).2.1⟩
  · exact Or.inr h
/-- the prays' -/
theorem L_prays (hd : drK U g0 g1 nw b 0 c2 tk S SM) (hU : xdr S = U) (T : tkJ B n s p k S SM) (F : fine S SM) (k0 : k ≠ 0) : ∃ S' SM', fX3_readRule 5000 (U + 10) S = some (0, S') ∧ fX12_sayOnce 5000 4 SM = some (0, SM') ∧ LIN B n U s S SM S' SM' (doneV nw b 1 c2) := by
  have hT := xdr_cases (S := S)
  rw [hU] at hT
  obtain ⟨d1, d2, d3, d4, d5, d6⟩ := hd
  obtain ⟨⟨D, ⟨r1, r2, -⟩, -⟩, r3⟩ := d5
  obtain ⟨S', SM', a1, a2, X, M, s', p', k', c', T', c7, h3, h⟩ := j_rule (r := U + 10) (w := 10) (sg := 15) (x := 4) (by omega) (Or.inl ⟨rfl, rfl, rfl, r3⟩) T F k0 r1 r2
  replace h : hid _ := h
  have X' : ∀ i j, xNu i j = false → ¬ (i = U + 10 ∧ j = 3) → i ≠ U + 10 + 1 → S' i j = S i j := fun i j z1 z2 z3 => X i j (xEx_n z1 z2 z3)
  have M' : ∀ i j, mNu i j = false → ¬ (i = 99 ∧ (j = 31 ∨ j = 3)) → ¬ (i = 5 ∧ j = 10) → ¬ (i = 15 ∧ 700 ≤ j) → SM' i j = SM i j := fun i j z1 z2 z3 z4 => M i j (mEx_n z1 z3 z4) z2
  refine ⟨S', SM', a1, a2, fun i j z1 z2 => X' i j z1 (by omega) (by omega), fun i j z1 z2 => M' i j z1 (fun z => z2 (Or.inl (by omega))) (fun z => z2 (Or.inr (Or.inl (by omega)))) (fun z => z2 (Or.inr (Or.inr (Or.inr (Or.inr (by omega)))))), s', p', k', T', ?_⟩
  have X2 : ∀ i j, U ≤ i → ¬ (i = U + 10 ∧ j = 3) → i ≠ U + 10 + 1 → S' i j = S i j := fun i j z1 z2 z3 => X' i j (xNu_u (by omega) (by omega)) z2 z3
  have M2 : ∀ i j, i ≠ 99 → ¬ (i = 5 ∧ j = 10) → i ≠ 15 → SM' i j = SM i j := fun i j z1 z2 z3 => M' i j (mNu_u z1) (by omega) z2 (by omega)
  rcases (show _ ∨ _ from h) with ⟨F', R', e1, e2⟩ | h
  · refine Or.inl ⟨F', e2, g0, g1, nw, b, c', c2, tk, ⟨d1.on (X2 _ _ (by omega) (by omega) (by omega)) (fun i j _ _ => X2 i j (by omega) (by omega) (by omega)) (M2 _ _ (by omega) (by omega) (by omega)) (fun i j _ _ => M2 i j (by omega) (by omega) (by omega)), d2.on (X2 _ _ (by omega) (by omega) (by omega)) (fun i j _ _ => X2 i j (by omega) (by omega) (by omega)) (M2 _ _ (by omega) (by omega) (by omega)) (M' 99 30 rfl (by omega) (by omega) (by omega)) (fun i j _ _ => M2 i j (by omega) (by omega) (by omega)), d3.on (X2 _ _ (by omega) (by omega) (by omega)) (fun j => X2 _ j (by omega) (by omega) (by omega)) (M2 _ _ (by omega) (by omega) (by omega)) (fun j => M2 _ j (by omega) (by omega) (by omega)), d4.on (X2 _ _ (by omega) (by omega) (by omega)) (M2 _ _ (by omega) (by omega) (by omega)), ⟨⟨1, R', Or.inr rfl⟩, (X2 _ _ (by omega) (by omega) (by omega)).trans r3⟩, d6.on (fun i j _ => X2 i j (by omega) (by omega) (by omega)) (M2 _ _ (by omega) (by omega) (by omega)) (fun j => M2 _ j (by omega) (by omega) (by omega))⟩, (dn_1 (nw := nw) (b := b) (c1 := 0) e1).2.2.1⟩
  · exact Or.inr h
/-- the costs' -/
theorem L_costs (hd : drK U g0 g1 nw b c1 0 tk S SM) (hU : xdr S = U) (T : tkJ B n s p k S SM) (F : fine S SM) (k0 : k ≠ 0) : ∃ S' SM', fX3_readRule 5000 (U + 13) S = some (0, S') ∧ fX12_sayOnce 5000 8 SM = some (0, SM') ∧ LIN B n U s S SM S' SM' (doneV nw b c1 1) := by
  have hT := xdr_cases (S := S)
  rw [hU] at hT
  obtain ⟨d1, d2, d3, d4, d5, d6⟩ := hd
  obtain ⟨⟨D, ⟨r1, r2, -⟩, -⟩, r3⟩ := d6
  obtain ⟨S', SM', a1, a2, X, M, s', p', k', c', T', c7, h3, h⟩ := j_rule (r := U + 13) (w := 11) (sg := 16) (x := 8) (by omega) (Or.inr ⟨rfl, rfl, rfl, r3⟩) T F k0 r1 r2
  replace h : hid _ := h
  have X' : ∀ i j, xNu i j = false → ¬ (i = U + 13 ∧ j = 3) → i ≠ U + 13 + 1 → S' i j = S i j := fun i j z1 z2 z3 => X i j (xEx_n z1 z2 z3)
  have M' : ∀ i j, mNu i j = false → ¬ (i = 99 ∧ (j = 31 ∨ j = 3)) → ¬ (i = 5 ∧ j = 11) → ¬ (i = 16 ∧ 700 ≤ j) → SM' i j = SM i j := fun i j z1 z2 z3 z4 => M i j (mEx_n z1 z3 z4) z2
  refine ⟨S', SM', a1, a2, fun i j z1 z2 => X' i j z1 (by omega) (by omega), fun i j z1 z2 => M' i j z1 (fun z => z2 (Or.inl (by omega))) (fun z => z2 (Or.inr (Or.inl (by omega)))) (fun z => z2 (Or.inr (Or.inr (Or.inr (Or.inr (by omega)))))), s', p', k', T', ?_⟩
  have X2 : ∀ i j, U ≤ i → ¬ (i = U + 13 ∧ j = 3) → i ≠ U + 13 + 1 → S' i j = S i j := fun i j z1 z2 z3 => X' i j (xNu_u (by omega) (by omega)) z2 z3
  have M2 : ∀ i j, i ≠ 99 → ¬ (i = 5 ∧ j = 11) → i ≠ 16 → SM' i j = SM i j := fun i j z1 z2 z3 => M' i j (mNu_u z1) (by omega) z2 (by omega)
  rcases (show _ ∨ _ from h) with ⟨F', R', e1, e2⟩ | h
  · refine Or.inl ⟨F', e2, g0, g1, nw, b, c1, c', tk, ⟨d1.on (X2 _ _ (by omega) (by omega) (by omega)) (fun i j _ _ => X2 i j (by omega) (by omega) (by omega)) (M2 _ _ (by omega) (by omega) (by omega)) (fun i j _ _ => M2 i j (by omega) (by omega) (by omega)), d2.on (X2 _ _ (by omega) (by omega) (by omega)) (fun i j _ _ => X2 i j (by omega) (by omega) (by omega)) (M2 _ _ (by omega) (by omega) (by omega)) (M' 99 30 rfl (by omega) (by omega) (by omega)) (fun i j _ _ => M2 i j (by omega) (by omega) (by omega)), d3.on (X2 _ _ (by omega) (by omega) (by omega)) (fun j => X2 _ j (by omega) (by omega) (by omega)) (M2 _ _ (by omega) (by omega) (by omega)) (fun j => M2 _ j (by omega) (by omega) (by omega)), d4.on (X2 _ _ (by omega) (by omega) (by omega)) (M2 _ _ (by omega) (by omega) (by omega)), d5.on (fun i j _ => X2 i j (by omega) (by omega) (by omega)) (M2 _ _ (by omega) (by omega) (by omega)) (fun j => M2 _ j (by omega) (by omega) (by omega)), ⟨⟨1, R', Or.inr rfl⟩, (X2 _ _ (by omega) (by omega) (by omega)).trans r3⟩⟩, (dn_1 (nw := nw) (b := b) (c2 := 0) e1).2.2.2⟩
  · exact Or.inr h
end
end
