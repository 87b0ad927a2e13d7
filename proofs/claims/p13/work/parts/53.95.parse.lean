section
variable {B : Nat → Nat} {n s p k r w sg c D N a d i : Nat} {S SM : gS}
theorem far_k (T : tkJ B n s p k S SM) (hi : i ≤ s) (h7 : 700 ≤ i) : k = 0 := by
  have n7 := T.1.1
  have hk := T.2.2.2.1
  unfold tkK at hk
  by_cases z : k = 0
  · exact z
  · have := hk.2.2.2.2 z
    omega
theorem isS_k {x : Int32} (h : isS B k s x = true) : k ≠ 0 := by
  intro z
  unfold isS at h
  rw [z] at h
  cases h
theorem isW_k {v : Nat} (h : isW B k s p v = true) : k ≠ 0 := by
  intro z
  unfold isW isWl at h
  rw [z] at h
  cases h
theorem isS_0 {x : Int32} (h : k = 0) : isS B k s x = false := by
  unfold isS
  rw [h]
  rfl
theorem isW_0 {v : Nat} (h : k = 0) : isW B k s p v = false := by
  unfold isW isWl
  rw [h]
  rfl
variable {rEx : Nat → Int32 → gS → Option (Int32 × gS)} {rEm : Int32 → gS → Option (Int32 × gS)}
theorem part0 {x : Int32} (h : SM 99 27 ≠ 0) : fX12_readPart 5000 rEm x SM = some (0, SM) := by
  unfold fX12_readPart fX12_readPart_b0
  rw [if_neg h]
  rfl
theorem prod_st : lpStep B n r (fX3_readPart 5000 rEx r (nI a)) (fX12_readPart 5000 rEm (nI a)) (fun f x S => fX3_readProduct_h8 5000 rEx f r (nI a) x S) (fun f S => fX12_readProduct_h5 5000 rEm f (nI a) S) := by
  intro f f' i S SM s p k T F hi
  have hM0 : fX12_readProduct_h5 5000 rEm (f' + 1) (nI a) SM = if iv (isS B k s 42) = 0 then (if iv (isS B k s 47) = 0 then some (0, SM) else fX12_readProduct_b37 5000 rEm (fX12_readProduct_h5 5000 rEm f') (nI a) SM) else fX12_readProduct_b32 5000 rEm (fX12_readProduct_h5 5000 rEm f') (nI a) SM := by
    show fX12_readProduct_b5 5000 rEm (fX12_readProduct_h5 5000 rEm f') (nI a) SM = _
    have e23 : fX12_readProduct_b23 5000 rEm (fX12_readProduct_h5 5000 rEm f') (nI a) SM = if iv (isS B k s 42) = 0 then fX12_readProduct_b37 5000 rEm (fX12_readProduct_h5 5000 rEm f') (nI a) SM else fX12_readProduct_b32 5000 rEm (fX12_readProduct_h5 5000 rEm f') (nI a) SM := by
      unfold fX12_readProduct_b23
      rw [bnd_t (m_isMarked T F.2)]
    have e14 : fX12_readProduct_b14 5000 rEm (fX12_readProduct_h5 5000 rEm f') (nI a) SM = if iv (isS B k s 47) = 0 then some (0, SM) else fX12_readProduct_b23 5000 rEm (fX12_readProduct_h5 5000 rEm f') (nI a) SM := by
      unfold fX12_readProduct_b14
      rw [bnd_t (m_isMarked T F.2)]
      rfl
    have e5 : fX12_readProduct_b5 5000 rEm (fX12_readProduct_h5 5000 rEm f') (nI a) SM = if iv (isS B k s 42) = 0 then fX12_readProduct_b14 5000 rEm (fX12_readProduct_h5 5000 rEm f') (nI a) SM else fX12_readProduct_b23 5000 rEm (fX12_readProduct_h5 5000 rEm f') (nI a) SM := by
      unfold fX12_readProduct_b5
      rw [bnd_t (m_isMarked T F.2)]
    rw [e5, e14, e23]
    cases isS B k s 42 <;> cases isS B k s 47 <;> rfl
  by_cases h7 : 700 ≤ i
  · have k0 := far_k T hi h7
    refine Or.inl ⟨?_, ?_⟩
    · show fX3_readProduct_b8 5000 rEx _ r (nI a) (nI i) S = _
      unfold fX3_readProduct_b8
      have hs : i ≤ 700 := by
        have hk := T.2.2.2.1
        unfold tkK at hk
        have := T.1.1
        omega
      rw [if_pos (show (700 : Int32) ≤ nI i from nI_le (a := 700) h7 (by omega))]
      rfl
    · show fX12_readProduct_h5 5000 rEm (f' + 1) (nI a) SM = _
      rw [hM0, isS_0 k0, isS_0 k0]
      rfl
  · have hX0 : fX3_readProduct_h8 5000 rEx (f + 1) r (nI a) (nI i) S = if iv (isS B k s 42) = 0 then (if iv (isS B k s 47) = 0 then some (0, S) else fX3_readProduct_b64 5000 rEx (fX3_readProduct_h8 5000 rEx f) r (nI a) (nI i) S) else fX3_readProduct_b58 5000 rEx (fX3_readProduct_h8 5000 rEx f) r (nI a) (nI i) S := by
      show fX3_readProduct_b8 5000 rEx (fX3_readProduct_h8 5000 rEx f) r (nI a) (nI i) S = _
      unfold fX3_readProduct_b8
      rw [if_neg (show ¬ (700 : Int32) ≤ nI i from nI_ge (b := 700) (by omega) (by decide))]
      unfold fX3_readProduct_b15
      rw [bnd_t (fine_x F)]
      show fX3_readProduct_b22 5000 rEx (fX3_readProduct_h8 5000 rEx f) r (nI a) (nI i) S = _
      have e46 : fX3_readProduct_b46 5000 rEx (fX3_readProduct_h8 5000 rEx f) r (nI a) (nI i) S = if iv (isS B k s 42) = 0 then fX3_readProduct_b64 5000 rEx (fX3_readProduct_h8 5000 rEx f) r (nI a) (nI i) S else fX3_readProduct_b58 5000 rEx (fX3_readProduct_h8 5000 rEx f) r (nI a) (nI i) S := by
        unfold fX3_readProduct_b46
        rw [bnd_t (x_isAtSign T)]
      have e34 : fX3_readProduct_b34 5000 rEx (fX3_readProduct_h8 5000 rEx f) r (nI a) (nI i) S = if iv (isS B k s 47) = 0 then some (0, S) else fX3_readProduct_b46 5000 rEx (fX3_readProduct_h8 5000 rEx f) r (nI a) (nI i) S := by
        unfold fX3_readProduct_b34
        rw [bnd_t (x_isAtSign T)]
        rfl
      have e22 : fX3_readProduct_b22 5000 rEx (fX3_readProduct_h8 5000 rEx f) r (nI a) (nI i) S = if iv (isS B k s 42) = 0 then fX3_readProduct_b34 5000 rEx (fX3_readProduct_h8 5000 rEx f) r (nI a) (nI i) S else fX3_readProduct_b46 5000 rEx (fX3_readProduct_h8 5000 rEx f) r (nI a) (nI i) S := by
        unfold fX3_readProduct_b22
        rw [bnd_t (x_isAtSign T)]
      rw [e22, e34, e46]
      cases isS B k s 42 <;> cases isS B k s 47 <;> rfl
    cases h1 : isS B k s 42 with
    | true =>
      refine Or.inr ⟨10017, by decide, isS_k h1, ?_, ?_⟩
      · show fX3_readProduct_h8 5000 rEx (f + 1) r (nI a) (nI i) S = _
        rw [hX0, h1, ← nI_1 i]
        rfl
      · show fX12_readProduct_h5 5000 rEm (f' + 1) (nI a) SM = _
        rw [hM0, h1, show sgn 10017 = -22 by decide]
        rfl
    | false =>
      cases h2 : isS B k s 47 with
      | true =>
        refine Or.inr ⟨10018, by decide, isS_k h2, ?_, ?_⟩
        · show fX3_readProduct_h8 5000 rEx (f + 1) r (nI a) (nI i) S = _
          rw [hX0, h1, h2, ← nI_1 i]
          rfl
        · show fX12_readProduct_h5 5000 rEm (f' + 1) (nI a) SM = _
          rw [hM0, h1, h2, show sgn 10018 = -23 by decide]
          rfl
      | false =>
        refine Or.inl ⟨?_, ?_⟩
        · show fX3_readProduct_h8 5000 rEx (f + 1) r (nI a) (nI i) S = _
          rw [hX0, h1, h2]
          rfl
        · show fX12_readProduct_h5 5000 rEm (f' + 1) (nI a) SM = _
          rw [hM0, h1, h2]
          rfl
theorem prod_ft : lpFlt (fun f x S => fX3_readProduct_h8 5000 rEx f r (nI a) x S) (fun f S => fX12_readProduct_h5 5000 rEm f (nI a) S) := by
  intro f f' i S SM h hi
  obtain ⟨f1, f2, f3⟩ := flt_x (N := 5000) h
  refine ⟨?_, ?_⟩
  · show fX3_readProduct_b8 5000 rEx _ r (nI a) (nI i) S = _
    unfold fX3_readProduct_b8
    by_cases z : (700 : Int32) ≤ nI i
    · rw [if_pos z]; rfl
    · rw [if_neg z]
      unfold fX3_readProduct_b15
      rw [bnd_t f1]
      rfl
  · show fX12_readProduct_b5 5000 rEm _ (nI a) SM = _
    unfold fX12_readProduct_b5
    rw [bnd_t (m_isMarked0 f2)]
    show fX12_readProduct_b14 5000 rEm _ (nI a) SM = _
    unfold fX12_readProduct_b14
    rw [bnd_t (m_isMarked0 f2)]
    rfl
theorem prod0 (h : SM 99 27 ≠ 0) : fX12_readProduct 5000 rEm (nI a) SM = some (0, SM) := by
  unfold fX12_readProduct fX12_readProduct_b0
  rw [bnd_t (part0 h)]
  show fX12_readProduct_b5 5000 rEm (fX12_readProduct_h5 5000 rEm 4999) (nI a) SM = _
  unfold fX12_readProduct_b5
  rw [bnd_t (m_isMarked0 h)]
  show fX12_readProduct_b14 5000 rEm _ (nI a) SM = _
  unfold fX12_readProduct_b14
  rw [bnd_t (m_isMarked0 h)]
  rfl
theorem prodLaw (h0 : opLaw B n r w sg d (fX3_readPart 5000 rEx r (nI a)) (fX12_readPart 5000 rEm (nI a))) (h1 : opLaw B n r w sg (d + 1) (fX3_readPart 5000 rEx r (nI a)) (fX12_readPart 5000 rEm (nI a))) : opLaw B n r w sg d (fX3_readProduct 5000 rEx r (nI a)) (fX12_readProduct 5000 rEm (nI a)) := binP h0 h1 prod_st prod_ft
theorem sum_st : lpStep B n r (fX3_readProduct 5000 rEx r (nI a)) (fX12_readProduct 5000 rEm (nI a)) (fun f x S => fX3_readSum_h8 5000 rEx f r (nI a) x S) (fun f S => fX12_readSum_h5 5000 rEm f (nI a) S) := by
  intro f f' i S SM s p k T F hi
  have hM0 : fX12_readSum_h5 5000 rEm (f' + 1) (nI a) SM = if iv (isS B k s 43) = 0 then (if iv (isS B k s 45) = 0 then some (0, SM) else fX12_readSum_b37 5000 rEm (fX12_readSum_h5 5000 rEm f') (nI a) SM) else fX12_readSum_b32 5000 rEm (fX12_readSum_h5 5000 rEm f') (nI a) SM := by
    show fX12_readSum_b5 5000 rEm (fX12_readSum_h5 5000 rEm f') (nI a) SM = _
    have e23 : fX12_readSum_b23 5000 rEm (fX12_readSum_h5 5000 rEm f') (nI a) SM = if iv (isS B k s 43) = 0 then fX12_readSum_b37 5000 rEm (fX12_readSum_h5 5000 rEm f') (nI a) SM else fX12_readSum_b32 5000 rEm (fX12_readSum_h5 5000 rEm f') (nI a) SM := by
      unfold fX12_readSum_b23
      rw [bnd_t (m_isMarked T F.2)]
    have e14 : fX12_readSum_b14 5000 rEm (fX12_readSum_h5 5000 rEm f') (nI a) SM = if iv (isS B k s 45) = 0 then some (0, SM) else fX12_readSum_b23 5000 rEm (fX12_readSum_h5 5000 rEm f') (nI a) SM := by
      unfold fX12_readSum_b14
      rw [bnd_t (m_isMarked T F.2)]
      rfl
    have e5 : fX12_readSum_b5 5000 rEm (fX12_readSum_h5 5000 rEm f') (nI a) SM = if iv (isS B k s 43) = 0 then fX12_readSum_b14 5000 rEm (fX12_readSum_h5 5000 rEm f') (nI a) SM else fX12_readSum_b23 5000 rEm (fX12_readSum_h5 5000 rEm f') (nI a) SM := by
      unfold fX12_readSum_b5
      rw [bnd_t (m_isMarked T F.2)]
    rw [e5, e14, e23]
    cases isS B k s 43 <;> cases isS B k s 45 <;> rfl
  by_cases h7 : 700 ≤ i
  · have k0 := far_k T hi h7
    refine Or.inl ⟨?_, ?_⟩
    · show fX3_readSum_b8 5000 rEx _ r (nI a) (nI i) S = _
      unfold fX3_readSum_b8
      have hs : i ≤ 700 := by
        have hk := T.2.2.2.1
        unfold tkK at hk
        have := T.1.1
        omega
      rw [if_pos (show (700 : Int32) ≤ nI i from nI_le (a := 700) h7 (by omega))]
      rfl
    · show fX12_readSum_h5 5000 rEm (f' + 1) (nI a) SM = _
      rw [hM0, isS_0 k0, isS_0 k0]
      rfl
  · have hX0 : fX3_readSum_h8 5000 rEx (f + 1) r (nI a) (nI i) S = if iv (isS B k s 43) = 0 then (if iv (isS B k s 45) = 0 then some (0, S) else fX3_readSum_b64 5000 rEx (fX3_readSum_h8 5000 rEx f) r (nI a) (nI i) S) else fX3_readSum_b58 5000 rEx (fX3_readSum_h8 5000 rEx f) r (nI a) (nI i) S := by
      show fX3_readSum_b8 5000 rEx (fX3_readSum_h8 5000 rEx f) r (nI a) (nI i) S = _
      unfold fX3_readSum_b8
      rw [if_neg (show ¬ (700 : Int32) ≤ nI i from nI_ge (b := 700) (by omega) (by decide))]
      unfold fX3_readSum_b15
      rw [bnd_t (fine_x F)]
      show fX3_readSum_b22 5000 rEx (fX3_readSum_h8 5000 rEx f) r (nI a) (nI i) S = _
      have e46 : fX3_readSum_b46 5000 rEx (fX3_readSum_h8 5000 rEx f) r (nI a) (nI i) S = if iv (isS B k s 43) = 0 then fX3_readSum_b64 5000 rEx (fX3_readSum_h8 5000 rEx f) r (nI a) (nI i) S else fX3_readSum_b58 5000 rEx (fX3_readSum_h8 5000 rEx f) r (nI a) (nI i) S := by
        unfold fX3_readSum_b46
        rw [bnd_t (x_isAtSign T)]
      have e34 : fX3_readSum_b34 5000 rEx (fX3_readSum_h8 5000 rEx f) r (nI a) (nI i) S = if iv (isS B k s 45) = 0 then some (0, S) else fX3_readSum_b46 5000 rEx (fX3_readSum_h8 5000 rEx f) r (nI a) (nI i) S := by
        unfold fX3_readSum_b34
        rw [bnd_t (x_isAtSign T)]
        rfl
      have e22 : fX3_readSum_b22 5000 rEx (fX3_readSum_h8 5000 rEx f) r (nI a) (nI i) S = if iv (isS B k s 43) = 0 then fX3_readSum_b34 5000 rEx (fX3_readSum_h8 5000 rEx f) r (nI a) (nI i) S else fX3_readSum_b46 5000 rEx (fX3_readSum_h8 5000 rEx f) r (nI a) (nI i) S := by
        unfold fX3_readSum_b22
        rw [bnd_t (x_isAtSign T)]
      rw [e22, e34, e46]
      cases isS B k s 43 <;> cases isS B k s 45 <;> rfl
    cases h1 : isS B k s 43 with
    | true =>
      refine Or.inr ⟨10015, by decide, isS_k h1, ?_, ?_⟩
      · show fX3_readSum_h8 5000 rEx (f + 1) r (nI a) (nI i) S = _
        rw [hX0, h1, ← nI_1 i]
        rfl
      · show fX12_readSum_h5 5000 rEm (f' + 1) (nI a) SM = _
        rw [hM0, h1, show sgn 10015 = -20 by decide]
        rfl
    | false =>
      cases h2 : isS B k s 45 with
      | true =>
        refine Or.inr ⟨10016, by decide, isS_k h2, ?_, ?_⟩
        · show fX3_readSum_h8 5000 rEx (f + 1) r (nI a) (nI i) S = _
          rw [hX0, h1, h2, ← nI_1 i]
          rfl
        · show fX12_readSum_h5 5000 rEm (f' + 1) (nI a) SM = _
          rw [hM0, h1, h2, show sgn 10016 = -21 by decide]
          rfl
      | false =>
        refine Or.inl ⟨?_, ?_⟩
        · show fX3_readSum_h8 5000 rEx (f + 1) r (nI a) (nI i) S = _
          rw [hX0, h1, h2]
          rfl
        · show fX12_readSum_h5 5000 rEm (f' + 1) (nI a) SM = _
          rw [hM0, h1, h2]
          rfl
theorem sum_ft : lpFlt (fun f x S => fX3_readSum_h8 5000 rEx f r (nI a) x S) (fun f S => fX12_readSum_h5 5000 rEm f (nI a) S) := by
  intro f f' i S SM h hi
  obtain ⟨f1, f2, f3⟩ := flt_x (N := 5000) h
  refine ⟨?_, ?_⟩
  · show fX3_readSum_b8 5000 rEx _ r (nI a) (nI i) S = _
    unfold fX3_readSum_b8
    by_cases z : (700 : Int32) ≤ nI i
    · rw [if_pos z]; rfl
    · rw [if_neg z]
      unfold fX3_readSum_b15
      rw [bnd_t f1]
      rfl
  · show fX12_readSum_b5 5000 rEm _ (nI a) SM = _
    unfold fX12_readSum_b5
    rw [bnd_t (m_isMarked0 f2)]
    show fX12_readSum_b14 5000 rEm _ (nI a) SM = _
    unfold fX12_readSum_b14
    rw [bnd_t (m_isMarked0 f2)]
    rfl
theorem sum0 (h : SM 99 27 ≠ 0) : fX12_readSum 5000 rEm (nI a) SM = some (0, SM) := by
  unfold fX12_readSum fX12_readSum_b0
  rw [bnd_t (prod0 h)]
  show fX12_readSum_b5 5000 rEm (fX12_readSum_h5 5000 rEm 4999) (nI a) SM = _
  unfold fX12_readSum_b5
  rw [bnd_t (m_isMarked0 h)]
  show fX12_readSum_b14 5000 rEm _ (nI a) SM = _
  unfold fX12_readSum_b14
  rw [bnd_t (m_isMarked0 h)]
  rfl
theorem sumLaw (h0 : opLaw B n r w sg d (fX3_readProduct 5000 rEx r (nI a)) (fX12_readProduct 5000 rEm (nI a))) (h1 : opLaw B n r w sg (d + 1) (fX3_readProduct 5000 rEx r (nI a)) (fX12_readProduct 5000 rEm (nI a))) : opLaw B n r w sg d (fX3_readSum 5000 rEx r (nI a)) (fX12_readSum 5000 rEm (nI a)) := binP h0 h1 sum_st sum_ft
theorem and_st : lpStep B n r (fX3_readNot 5000 rEx r (nI a)) (fX12_readNot 5000 rEm (nI a)) (fun f x S => fX3_readAnd_h8 5000 rEx f r (nI a) x S) (fun f S => fX12_readAnd_h5 5000 rEm f (nI a) S) := by
  intro f f' i S SM s p k T F hi
  have ew : isW B k s p 41 = isW B k s p 16 := rfl
  have hM0 : fX12_readAnd_h5 5000 rEm (f' + 1) (nI a) SM = if iv (isW B k s p 16) = 0 then some (0, SM) else fX12_readAnd_b15 5000 rEm (fX12_readAnd_h5 5000 rEm f') (nI a) SM := by
    show fX12_readAnd_b5 5000 rEm (fX12_readAnd_h5 5000 rEm f') (nI a) SM = _
    unfold fX12_readAnd_b5
    rw [bnd_t (m_is (w := 41) (by decide) T F.2), ew]
    rfl
  by_cases h7 : 700 ≤ i
  · have k0 := far_k T hi h7
    refine Or.inl ⟨?_, ?_⟩
    · show fX3_readAnd_b8 5000 rEx _ r (nI a) (nI i) S = _
      unfold fX3_readAnd_b8
      have hs : i ≤ 700 := by
        have hk := T.2.2.2.1
        unfold tkK at hk
        have := T.1.1
        omega
      rw [if_pos (show (700 : Int32) ≤ nI i from nI_le (a := 700) h7 (by omega))]
      rfl
    · show fX12_readAnd_h5 5000 rEm (f' + 1) (nI a) SM = _
      rw [hM0, isW_0 k0]
      rfl
  · have hX0 : fX3_readAnd_h8 5000 rEx (f + 1) r (nI a) (nI i) S = if iv (isW B k s p 16) = 0 then some (0, S) else fX3_readAnd_b34 5000 rEx (fX3_readAnd_h8 5000 rEx f) r (nI a) (nI i) S := by
      show fX3_readAnd_b8 5000 rEx (fX3_readAnd_h8 5000 rEx f) r (nI a) (nI i) S = _
      unfold fX3_readAnd_b8
      rw [if_neg (show ¬ (700 : Int32) ≤ nI i from nI_ge (b := 700) (by omega) (by decide))]
      unfold fX3_readAnd_b15
      rw [bnd_t (fine_x F)]
      show fX3_readAnd_b22 5000 rEx (fX3_readAnd_h8 5000 rEx f) r (nI a) (nI i) S = _
      unfold fX3_readAnd_b22
      rw [bnd_t (x_isAtWord (w := 16) (by decide) T)]
      rfl
    cases h1 : isW B k s p 16 with
    | true =>
      refine Or.inr ⟨10012, by decide, isW_k h1, ?_, ?_⟩
      · show fX3_readAnd_h8 5000 rEx (f + 1) r (nI a) (nI i) S = _
        rw [hX0, h1, ← nI_1 i]
        rfl
      · show fX12_readAnd_h5 5000 rEm (f' + 1) (nI a) SM = _
        rw [hM0, h1, show sgn 10012 = -26 by decide]
        rfl
    | false =>
      refine Or.inl ⟨?_, ?_⟩
      · show fX3_readAnd_h8 5000 rEx (f + 1) r (nI a) (nI i) S = _
        rw [hX0, h1]
        rfl
      · show fX12_readAnd_h5 5000 rEm (f' + 1) (nI a) SM = _
        rw [hM0, h1]
        rfl
theorem and_ft : lpFlt (fun f x S => fX3_readAnd_h8 5000 rEx f r (nI a) x S) (fun f S => fX12_readAnd_h5 5000 rEm f (nI a) S) := by
  intro f f' i S SM h hi
  obtain ⟨f1, f2, f3⟩ := flt_x (N := 5000) h
  refine ⟨?_, ?_⟩
  · show fX3_readAnd_b8 5000 rEx _ r (nI a) (nI i) S = _
    unfold fX3_readAnd_b8
    by_cases z : (700 : Int32) ≤ nI i
    · rw [if_pos z]; rfl
    · rw [if_neg z]
      unfold fX3_readAnd_b15
      rw [bnd_t f1]
      rfl
  · show fX12_readAnd_b5 5000 rEm _ (nI a) SM = _
    unfold fX12_readAnd_b5
    rw [bnd_t (m_is0 f2)]
    rfl
theorem or_st : lpStep B n r (fX3_readAnd 5000 rEx r (nI a)) (fX12_readAnd 5000 rEm (nI a)) (fun f x S => fX3_readExpr_h67 5000 rEx f r (nI a) x S) (fun f S => fX12_readExpression_h67 5000 rEm f (nI a) S) := by
  intro f f' i S SM s p k T F hi
  have ew : isW B k s p 42 = isW B k s p 17 := rfl
  have hM0 : fX12_readExpression_h67 5000 rEm (f' + 1) (nI a) SM = if iv (isW B k s p 17) = 0 then some (0, SM) else fX12_readExpression_b77 5000 rEm (fX12_readExpression_h67 5000 rEm f') (nI a) SM := by
    show fX12_readExpression_b67 5000 rEm (fX12_readExpression_h67 5000 rEm f') (nI a) SM = _
    unfold fX12_readExpression_b67
    rw [bnd_t (m_is (w := 42) (by decide) T F.2), ew]
    rfl
  by_cases h7 : 700 ≤ i
  · have k0 := far_k T hi h7
    refine Or.inl ⟨?_, ?_⟩
    · show fX3_readExpr_b67 5000 rEx _ r (nI a) (nI i) S = _
      unfold fX3_readExpr_b67
      have hs : i ≤ 700 := by
        have hk := T.2.2.2.1
        unfold tkK at hk
        have := T.1.1
        omega
      rw [if_pos (show (700 : Int32) ≤ nI i from nI_le (a := 700) h7 (by omega))]
      rfl
    · show fX12_readExpression_h67 5000 rEm (f' + 1) (nI a) SM = _
      rw [hM0, isW_0 k0]
      rfl
  · have hX0 : fX3_readExpr_h67 5000 rEx (f + 1) r (nI a) (nI i) S = if iv (isW B k s p 17) = 0 then some (0, S) else fX3_readExpr_b93 5000 rEx (fX3_readExpr_h67 5000 rEx f) r (nI a) (nI i) S := by
      show fX3_readExpr_b67 5000 rEx (fX3_readExpr_h67 5000 rEx f) r (nI a) (nI i) S = _
      unfold fX3_readExpr_b67
      rw [if_neg (show ¬ (700 : Int32) ≤ nI i from nI_ge (b := 700) (by omega) (by decide))]
      unfold fX3_readExpr_b74
      rw [bnd_t (fine_x F)]
      show fX3_readExpr_b81 5000 rEx (fX3_readExpr_h67 5000 rEx f) r (nI a) (nI i) S = _
      unfold fX3_readExpr_b81
      rw [bnd_t (x_isAtWord (w := 17) (by decide) T)]
      rfl
    cases h1 : isW B k s p 17 with
    | true =>
      refine Or.inr ⟨10011, by decide, isW_k h1, ?_, ?_⟩
      · show fX3_readExpr_h67 5000 rEx (f + 1) r (nI a) (nI i) S = _
        rw [hX0, h1, ← nI_1 i]
        rfl
      · show fX12_readExpression_h67 5000 rEm (f' + 1) (nI a) SM = _
        rw [hM0, h1, show sgn 10011 = -27 by decide]
        rfl
    | false =>
      refine Or.inl ⟨?_, ?_⟩
      · show fX3_readExpr_h67 5000 rEx (f + 1) r (nI a) (nI i) S = _
        rw [hX0, h1]
        rfl
      · show fX12_readExpression_h67 5000 rEm (f' + 1) (nI a) SM = _
        rw [hM0, h1]
        rfl
theorem or_ft : lpFlt (fun f x S => fX3_readExpr_h67 5000 rEx f r (nI a) x S) (fun f S => fX12_readExpression_h67 5000 rEm f (nI a) S) := by
  intro f f' i S SM h hi
  obtain ⟨f1, f2, f3⟩ := flt_x (N := 5000) h
  refine ⟨?_, ?_⟩
  · show fX3_readExpr_b67 5000 rEx _ r (nI a) (nI i) S = _
    unfold fX3_readExpr_b67
    by_cases z : (700 : Int32) ≤ nI i
    · rw [if_pos z]; rfl
    · rw [if_neg z]
      unfold fX3_readExpr_b74
      rw [bnd_t f1]
      rfl
  · show fX12_readExpression_b67 5000 rEm _ (nI a) SM = _
    unfold fX12_readExpression_b67
    rw [bnd_t (m_is0 f2)]
    rfl
end
