section
variable {B : Nat → Nat} {n s p k N : Nat} {S SM : gS}
/-- a LINE that tells a rule, its word not yet gone over -/
theorem j_rule {r w sg : Nat} {x : Int32} (hr : r = 14 ∨ r = 17 ∨ r = 82 ∨ r = 85) (hw : (w = 10 ∧ sg = 15 ∧ x = 4 ∧ S r 2 = 0) ∨ (w = 11 ∧ sg = 16 ∧ x = 8 ∧ S r 2 = 1)) (T : tkJ B n s p k S SM) (F : fine S SM) (k0 : k ≠ 0) (h3 : S r 3 = nI 0) (h5 : SM 5 w = nI 0) : ∃ S' SM', fX3_readRule 5000 r S = some (0, S') ∧ fX12_sayOnce 5000 x SM = some (0, SM') ∧ oSame (xEx r) S S' ∧ (∀ i j, mEx w sg i j = false → ¬ (i = 99 ∧ (j = 31 ∨ j = 3)) → SM' i j = SM i j) ∧ ∃ s' p' k' c', tkJ B n s' p' k' S' SM' ∧ c' ≤ 700 ∧ S' r 3 = nI c' ∧ ((fine S' SM' ∧ rlJ r w sg c' 1 S' SM' ∧ 1 ≤ c' ∧ s + 1 ≤ s') ∨ flt S' SM') := by
  obtain ⟨S1, SM1, s1, p1, k1, a1, a2, T1, F1, a5, a6, a7⟩ := j_tok T F k0
  obtain ⟨oc, hoc⟩ : ∃ z : Int32, z = if w = 10 then 0 else 1 := ⟨_, rfl⟩
  obtain ⟨SM2, hS2⟩ : ∃ z, z = sU (sU SM1 99 31 oc) 99 3 oc := ⟨_, rfl⟩
  have m2 : ∀ i j, ¬ (i = 99 ∧ (j = 31 ∨ j = 3)) → SM2 i j = SM1 i j := fun i j z => by rw [hS2, sU_n (by omega), sU_n (by omega)]
  have T2 : tkJ B n s1 p1 k1 S1 SM2 := T1.on (fun _ => rfl) (fun _ => rfl) (fun j y1 y2 => m2 99 j (by omega)) (fun j _ => m2 19 j (by omega))
  have F2 : fine S1 SM2 := ⟨F1.1, (m2 99 27 (by omega)).trans F1.2⟩
  have er : ∀ j, S1 r j = S r j := fun j => a6 r j (by rcases hr with z | z | z | z <;> rw [z] <;> rfl)
  have hwd : w = 10 ∨ w = 11 := by omega
  have hK2 : rlK r w sg S1 SM2 := by
    refine ⟨hr, ?_⟩
    rw [er 2]
    rcases hw with ⟨e1, e2, e3, e4⟩ | ⟨e1, e2, e3, e4⟩
    · refine Or.inl ⟨e1, e2, ?_, ?_, e4⟩
      · rw [hS2, sU_n (by omega), sU_ap, if_pos ⟨rfl, rfl⟩, hoc, if_pos e1]
      · rw [hS2, sU_ap, if_pos ⟨rfl, rfl⟩, hoc, if_pos e1]
    · refine Or.inr ⟨e1, e2, ?_, ?_, e4⟩
      · rw [hS2, sU_n (by omega), sU_ap, if_pos ⟨rfl, rfl⟩, hoc, if_neg (by omega)]
      · rw [hS2, sU_ap, if_pos ⟨rfl, rfl⟩, hoc, if_neg (by omega)]
  have R2 : rlJ r w sg 0 0 S1 SM2 := by
    refine ⟨(er 3).trans h3, ?_, by decide, fun i hi => absurd hi (by omega), fun i hi => absurd hi (by omega), rfl⟩
    rw [m2 5 w (by omega), a7 5 w rfl]
    exact h5
  obtain ⟨v, S3, v', SM3, b1, b2, o1, o2, s3, p3, k3, c3, T3, c7, r3, h⟩ := exAll 6 0 rfl 0 (by decide) S1 SM2 0 s1 p1 k1 T2 F2 hK2 R2 (by omega)
  refine ⟨S3, SM3, ?_, ?_, (xTk.ex a6).tr o1, fun i j z1 z2 => ?_, s3, p3, k3, c3, T3, c7, r3, ?_⟩
  · unfold fX3_readRule fX3_readRule_b0
    have e : fX4_isTold 5000 r S = some (0, S) := by
      unfold fX4_isTold fX4_isTold_b0
      rw [h3, if_pos (by decide)]
      rfl
    rw [bnd_t e]
    show fX3_readRule_b13 5000 r S = _
    unfold fX3_readRule_b13
    rw [bnd_t a1]
    dsimp only
    rw [bnd_t (show fX3_E 5000 8 r 0 S1 = some (v, S3) from b1)]
  · have b2' : fX12_E 5000 8 0 SM2 = some (v', SM3) := b2
    unfold fX12_sayOnce fX12_sayOnce_b0
    rw [bnd_t a2]
    dsimp only
    rcases hw with ⟨e1, e2, e3, e4⟩ | ⟨e1, e2, e3, e4⟩
    · rw [e3, if_neg (by decide)]
      unfold fX12_sayOnce_b13
      rw [if_neg (by decide)]
      unfold fX12_sayOnce_b32
      rw [if_pos (by decide)]
      unfold fX12_sayOnce_b38
      rw [if_neg (by decide)]
      unfold fX12_sayOnce_b49 fX12_sayOnce_b50
      dsimp only [lt]
      have ez : sU SM1 99 31 0 99 31 = 0 := by rw [sU_ap, if_pos ⟨rfl, rfl⟩]
      rw [chk_t (by decide), ez, if_pos rfl]
      unfold fX12_sayOnce_b68 fX12_sayOnce_b72
      dsimp only [lt]
      rw [if_pos e1] at hoc
      rw [hoc] at hS2
      rw [chk_t (by decide), if_pos rfl, ← hS2, bnd_t b2']
    · rw [e3, if_neg (by decide)]
      unfold fX12_sayOnce_b13
      rw [if_neg (by decide)]
      unfold fX12_sayOnce_b32
      rw [if_pos (by decide)]
      unfold fX12_sayOnce_b38
      rw [if_pos rfl]
      unfold fX12_sayOnce_b45 fX12_sayOnce_b50
      dsimp only [lt]
      have ez : sU SM1 99 31 1 99 31 = 1 := by rw [sU_ap, if_pos ⟨rfl, rfl⟩]
      rw [chk_t (by decide), ez, if_neg (by decide)]
      unfold fX12_sayOnce_b61 fX12_sayOnce_b72
      dsimp only [lt]
      rw [if_neg (by omega)] at hoc
      rw [hoc] at hS2
      rw [chk_t (by decide), if_neg (by decide), ← hS2, bnd_t b2']
  · rw [o2 i j z1, m2 i j z2]
    exact a7 i j (mEx_f z1).1
  · rcases h with ⟨F3, R3, e, e1, e2⟩ | h
    · refine Or.inl ⟨F3, R3, ?_, by omega⟩
      by_cases z : c3 = 0
      · have := R3.2.2.2.2.2
        rw [z] at this
        exact absurd (show (0 : Nat) = 0 + 1 from this) (by decide)
      · omega
    · exact Or.inr h
end
