/-! part 974.bound -/
section
theorem xdr_on {S S' : gS} (h : S' 1 1 = S 1 1) : xdr S' = xdr S := by
  unfold xdr
  rw [h]
theorem xdr_cases {S : gS} : xdr S = 72 ∨ xdr S = 4 := by
  unfold xdr
  split <;> omega
section
variable {B : Nat → Nat} {n s p k N : Nat} {S SM : gS}
/-- the LINE of the bound, its word not yet gone over -/
theorem j_bound (T : tkJ B n s p k S SM) (F : fine S SM) (k0 : k ≠ 0) (hb : S (xdr S) 12 = nI 0) : ∃ S' SM', fX3_readBound 5000 S = some (0, S') ∧ fX12_sayOnce 5000 2 SM = some (0, SM') ∧ (∀ i j, xNu i j = false → ¬ (i = xdr S ∧ j = 12) → S' i j = S i j) ∧ (∀ i j, mNu i j = false → ¬ (i = 5 ∧ j = 8) → SM' i j = SM i j) ∧ ∃ s' p' k', tkJ B n s' p' k' S' SM' ∧ ((fine S' SM' ∧ s + 1 ≤ s' ∧ ∃ y, 1 ≤ y ∧ y ≤ 99 ∧ S' (xdr S) 12 = nI y ∧ SM' 5 8 = nI y) ∨ flt S' SM') := by
  have hT := xdr_cases (S := S)
  obtain ⟨S1, SM1, s1, p1, k1, a1, a2, T1, F1, a5, a6, a7⟩ := j_tok T F k0
  have d1 : xdr S1 = xdr S := xdr_on (a6 1 1 rfl)
  obtain ⟨v, S2, v', SM2, b1, b2, ⟨o1, o2, s2, p2, k2, T2, h⟩, -⟩ := j_num (lo := 1) (hi := 99) (by decide) (by decide) T1 F1
  have kx : ∀ i j, ¬ (i = xdr S ∧ j = 12) → sU S2 (xdr S) 12 v i j = S2 i j := fun i j z => sU_n z
  have km : ∀ i j, ¬ (i = 5 ∧ j = 8) → sU SM2 5 8 v' i j = SM2 i j := fun i j z => sU_n z
  refine ⟨sU S2 (xdr S) 12 v, sU SM2 5 8 v', ?_, ?_, fun i j z1 z2 => ?_, fun i j z1 z2 => ?_, s2, p2, k2, T2.on (fun j => kx 2 j (by omega)) (fun j => kx 3 j (by omega)) (fun j _ _ => km 99 j (by omega)) (fun j _ => km 19 j (by omega)), ?_⟩
  · unfold fX3_readBound fX3_readBound_b0
    dsimp only [lt]
    have e : fX9_isBoundTold 5000 (xdr S) S = some (0, S) := by
      unfold fX9_isBoundTold fX9_isBoundTold_b0
      rw [hb, if_pos (by decide)]
      rfl
    rw [bnd_t e]
    show fX3_readBound_b16 5000 S = _
    unfold fX3_readBound_b16
    dsimp only [lt]
    rw [bnd_t a1]
    dsimp only
    rw [d1, bnd_t (show fX3_readNumber 5000 1 99 S1 = _ from b1)]
  · unfold fX12_sayOnce fX12_sayOnce_b0
    rw [bnd_t a2]
    dsimp only
    rw [if_neg (by decide)]
    unfold fX12_sayOnce_b13
    rw [if_pos rfl]
    unfold fX12_sayOnce_b18
    dsimp only [lt]
    rw [bnd_t (show fX12_readNumber 5000 1 99 SM1 = _ from b2)]
    rfl
  · rw [kx i j z2, o1 i j z1]
    exact a6 i j (xNu_f z1).1
  · rw [km i j z2, o2 i j z1]
    exact a7 i j (mNu_f z1).1
  · rcases h with ⟨F2, e2, -, y, y1, y2, rfl, rfl⟩ | h
    · refine Or.inl ⟨⟨?_, ?_⟩, by omega, y, y1, y2, ?_, ?_⟩
      · exact ⟨by rw [kx 1 2 (by omega)]; exact F2.1.1, by rw [kx 1 3 (by omega)]; exact F2.1.2⟩
      · rw [km 99 27 (by omega)]; exact F2.2
      · rw [sU_ap, if_pos ⟨rfl, rfl⟩]
      · rw [sU_ap, if_pos ⟨rfl, rfl⟩]
    · obtain ⟨q, q1, q2, q3, q4, q5⟩ := h
      exact Or.inr ⟨q, q1, q2, by rw [kx 1 2 (by omega)]; exact q3, by rw [km 99 27 (by omega)]; exact q4, by rw [kx 1 3 (by omega), km 99 28 (by omega)]; exact q5⟩
end
end
