section
variable {B : Nat → Nat} {n s p k r w sg c D N a d i : Nat} {S SM : gS}
variable {rEx : Nat → Int32 → gS → Option (Int32 × gS)} {rEm : Int32 → gS → Option (Int32 × gS)}
theorem lay_bad (h : SM 99 27 ≠ 0) {j : Nat} (hj : j ≤ 7) : ∀ m i f, i + m = j → m < f → fX12_readNot_h96 5000 rEm f (nI j) (nI i) SM = some (0, SM) := by
  intro m
  induction m with
  | zero =>
    intro i f hi hf
    obtain ⟨f, rfl⟩ : ∃ y, f = y + 1 := ⟨f - 1, by omega⟩
    show fX12_readNot_b96 5000 rEm _ (nI j) (nI i) SM = _
    unfold fX12_readNot_b96
    rw [if_pos (nI_le (by omega) (by omega))]
    rfl
  | succ m ih =>
    intro i f hi hf
    obtain ⟨f, rfl⟩ : ∃ y, f = y + 1 := ⟨f - 1, by omega⟩
    show fX12_readNot_b96 5000 rEm (fX12_readNot_h96 5000 rEm f) (nI j) (nI i) SM = _
    unfold fX12_readNot_b96
    rw [if_neg (nI_ge (by omega) (by omega))]
    unfold fX12_readNot_b101
    rw [bnd_t (m_lay0 h), nI_1 i]
    exact ih (i + 1) f (by omega) (by omega)
theorem not_bad (h : SM 99 27 ≠ 0) {j f : Nat} (hj : j ≤ 7) : fX12_readNot_h2 5000 rEm (f + 1) (nI a) (nI j) SM = some (0, SM) := by
  show fX12_readNot_b2 5000 rEm (fX12_readNot_h2 5000 rEm f) (nI a) (nI j) SM = _
  unfold fX12_readNot_b2
  rw [bnd_t (m_is0 h)]
  show fX12_readNot_b40 5000 rEm (nI a) (nI j) SM = _
  unfold fX12_readNot_b40
  rw [bnd_t (sum0 h)]
  dsimp only
  rw [bnd_t (m_isMarked0 h)]
  show fX12_readNot_b54 5000 rEm (nI a) (nI j) SM = _
  unfold fX12_readNot_b54
  rw [bnd_t (m_isMarked0 h)]
  exact lay_bad h hj j 0 5000 (by omega) (by omega)
theorem and_bad (h : SM 99 27 ≠ 0) : fX12_readAnd 5000 rEm (nI a) SM = some (0, SM) := by
  unfold fX12_readAnd fX12_readAnd_b0
  rw [bnd_t (show fX12_readNot 5000 rEm (nI a) SM = some (0, SM) from not_bad (j := 0) (f := 4999) h (by decide))]
  show fX12_readAnd_b5 5000 rEm (fX12_readAnd_h5 5000 rEm 4999) (nI a) SM = _
  unfold fX12_readAnd_b5
  rw [bnd_t (m_is0 h)]
  rfl
theorem b62_bad (h : SM 99 27 ≠ 0) : fX12_readExpression_b62 5000 rEm (nI a) SM = some (0, SM) := by
  unfold fX12_readExpression_b62
  rw [bnd_t (and_bad h)]
  show fX12_readExpression_b67 5000 rEm (fX12_readExpression_h67 5000 rEm 4999) (nI a) SM = _
  unfold fX12_readExpression_b67
  rw [bnd_t (m_is0 h)]
  rfl
theorem notLaw (h0 : opLaw B n r w sg d (fX3_readSum 5000 rEx r (nI a)) (fX12_readSum 5000 rEm (nI a))) (h1 : opLaw B n r w sg (d + 1) (fX3_readSum 5000 rEx r (nI a)) (fX12_readSum 5000 rEm (nI a))) : opLaw B n r w sg d (fX3_readNot 5000 rEx r (nI a)) (fX12_readNot 5000 rEm (nI a)) := by
  intro S SM c s p k T F hK R hc
  have ew : ∀ s p k, isW B k s p 40 = isW B k s p 9 := fun _ _ _ => rfl
  have body : ∀ (j : Nat) (S1 SM1 : gS) (s1 p1 k1 : Nat), j ≤ 6 → oSame (xEx r) S S1 → oSame (mEx w sg) SM SM1 → tkJ B n s1 p1 k1 S1 SM1 → fine S1 SM1 → rlJ r w sg c d S1 SM1 → c + j ≤ s1 → s + j ≤ s1 → PP B n r w sg c (d + 1) s S SM (fX3_readNot_b58 5000 rEx r (nI a) (nI j) S1) (fX12_readNot_b40 5000 rEm (nI a) (nI j) SM1) := by
    intro j S1 SM1 s1 p1 k1 hj o1 o2 T1 F1 R1 g1 g2
    obtain ⟨v, S2, SM2, b1, b2, u1, u2, s2, p2, k2, c2, T2, c7, r3, h⟩ := testLaw (x2 := nI j) h0 h1 T1 F1 (hK.on o1 o2) R1 (by omega)
    have eX : fX3_readNot_b58 5000 rEx r (nI a) (nI j) S1 = fX3_readNot_h67 5000 rEx 5000 r (nI j) (nI 0) S2 := by
      unfold fX3_readNot_b58
      rw [bnd_t b1]
      rfl
    have eM : fX12_readNot_b40 5000 rEm (nI a) (nI j) SM1 = fX12_readNot_h96 5000 rEm 5000 (nI j) (nI 0) SM2 := b2
    rw [eX, eM]
    rcases h with ⟨F2, R2, e, e1, e2⟩ | h
    · obtain ⟨S3, SM3, c3, z1, z2, z3, z4, z5, z6, z7, y1, y2, y3⟩ := notAdd (rEx := rEx) (rEm := rEm) hj (by omega) hK j 0 5000 5000 S2 SM2 c2 s2 p2 k2 (by omega) (by omega) (by omega) (o1.tr u1) (o2.tr u2) T2 c7 r3 F2 R2 (by omega)
      exact ⟨0, S3, 0, SM3, z1, z2, z3, z4, s2, p2, k2, c3, z5, z6, z7, Or.inl ⟨y1, y2, e + j, by omega, by omega⟩⟩
    · obtain ⟨S3, SM3, c3, z1, z2, z3, z4, z5, z6, z7, y1⟩ := notAdd0 (rEx := rEx) (rEm := rEm) (j := j) (by omega) hK j 0 5000 5000 S2 SM2 c2 s2 p2 k2 (by omega) (by omega) (by omega) (o1.tr u1) (o2.tr u2) T2 c7 r3 h
      exact ⟨0, S3, 0, SM3, z1, z2, z3, z4, s2, p2, k2, c3, z5, z6, z7, Or.inr y1⟩
  have b40 : ∀ (j : Nat) (S1 SM1 : gS) (s1 p1 k1 : Nat), tkJ B n s1 p1 k1 S1 SM1 → fX3_readNot_b40 5000 rEx r (nI a) (nI j) S1 = if iv (isW B k1 s1 p1 9) = 0 then fX3_readNot_b58 5000 rEx r (nI a) (nI j) S1 else fX3_readNot_b52 5000 rEx S1 := by
    intro j S1 SM1 s1 p1 k1 T1
    unfold fX3_readNot_b40
    rw [bnd_t (x_isAtWord (w := 9) (by decide) T1)]
  have m2 : ∀ (j f' : Nat) (S1 SM1 : gS) (s1 p1 k1 : Nat), tkJ B n s1 p1 k1 S1 SM1 → fine S1 SM1 → fX12_readNot_h2 5000 rEm (f' + 1) (nI a) (nI j) SM1 = if iv (isW B k1 s1 p1 9) = 0 then fX12_readNot_b40 5000 rEm (nI a) (nI j) SM1 else fX12_readNot_b12 5000 rEm (fX12_readNot_h2 5000 rEm f') (nI a) (nI j) SM1 := by
    intro j f' S1 SM1 s1 p1 k1 T1 F1
    show fX12_readNot_b2 5000 rEm (fX12_readNot_h2 5000 rEm f') (nI a) (nI j) SM1 = _
    unfold fX12_readNot_b2
    rw [bnd_t (m_is (w := 40) (by decide) T1 F1.2), ew]
  have main : ∀ (m j f f' : Nat) (S1 SM1 : gS) (s1 p1 k1 : Nat), j + m = 6 → m < f → m + 1 < f' → oSame (xEx r) S S1 → oSame (mEx w sg) SM SM1 → tkJ B n s1 p1 k1 S1 SM1 → fine S1 SM1 → rlJ r w sg c d S1 SM1 → c + j ≤ s1 → s + j ≤ s1 → PP B n r w sg c (d + 1) s S SM (fX3_readNot_h5 5000 rEx f r (nI a) (nI j) (nI j) S1) (fX12_readNot_h2 5000 rEm f' (nI a) (nI j) SM1) := by
    intro m
    induction m with
    | zero =>
      intro j f f' S1 SM1 s1 p1 k1 hj hf hf' o1 o2 T1 F1 R1 g1 g2
      obtain ⟨f, rfl⟩ : ∃ y, f = y + 1 := ⟨f - 1, by omega⟩
      obtain ⟨f', rfl⟩ : ∃ y, f' = y + 2 := ⟨f' - 2, by omega⟩
      obtain rfl : j = 6 := by omega
      have hX : fX3_readNot_h5 5000 rEx (f + 1) r (nI a) (nI 6) (nI 6) S1 = fX3_readNot_b40 5000 rEx r (nI a) (nI 6) S1 := by
        show fX3_readNot_b5 5000 rEx _ r (nI a) (nI 6) (nI 6) S1 = _
        unfold fX3_readNot_b5
        rw [if_pos (by decide)]
      rw [hX, b40 6 S1 SM1 s1 p1 k1 T1, m2 6 (f' + 1) S1 SM1 s1 p1 k1 T1 F1]
      cases hb : isW B k1 s1 p1 9 with
      | false => exact body 6 S1 SM1 s1 p1 k1 (by omega) o1 o2 T1 F1 R1 g1 g2
      | true =>
        obtain ⟨S', SM', a1, a2, a3, ⟨q1, q2, s2, p2, k2, T2, -⟩⟩ := j_refuse (q := 2) (G := True) (by decide) T1 F1
        have hK1 := hK.on o1 o2
        have f2 := (flt_x (N := 5000) a3).2.1
        refine ⟨0, S', 0, SM', ?_, ?_, o1.tr (xNu.ex q1), o2.tr (mNu.ex q2), s2, p2, k2, c, T2, R1.2.2.1, rlJ.r3 hK1 R1.1 q1, Or.inr a3⟩
        · show fX3_readNot_b52 5000 rEx S1 = _
          unfold fX3_readNot_b52
          rw [bnd_t (show fX3_refuse 5000 2 S1 = _ from a1)]
        · show fX12_readNot_b12 5000 rEm (fX12_readNot_h2 5000 rEm (f' + 1)) (nI a) (nI 6) SM1 = _
          unfold fX12_readNot_b12
          rw [if_pos (by decide)]
          unfold fX12_readNot_b18
          rw [bnd_t (show fX12_wrong 5000 2 SM1 = _ from a2)]
          show fX12_readNot_b23 5000 rEm (fX12_readNot_h2 5000 rEm (f' + 1)) (nI a) (nI 6) SM' = _
          unfold fX12_readNot_b23
          rw [if_neg f2, nI_1 6]
          exact not_bad f2 (by decide)
    | succ m ih =>
      intro j f f' S1 SM1 s1 p1 k1 hj hf hf' o1 o2 T1 F1 R1 g1 g2
      obtain ⟨f, rfl⟩ : ∃ y, f = y + 1 := ⟨f - 1, by omega⟩
      obtain ⟨f', rfl⟩ : ∃ y, f' = y + 1 := ⟨f' - 1, by omega⟩
      have hX : fX3_readNot_h5 5000 rEx (f + 1) r (nI a) (nI j) (nI j) S1 = if iv (isW B k1 s1 p1 9) = 0 then fX3_readNot_b40 5000 rEx r (nI a) (nI j) S1 else fX3_readNot_b24 5000 rEx (fX3_readNot_h5 5000 rEx f) r (nI a) (nI j) (nI j) S1 := by
        show fX3_readNot_b5 5000 rEx (fX3_readNot_h5 5000 rEx f) r (nI a) (nI j) (nI j) S1 = _
        unfold fX3_readNot_b5
        rw [if_neg (show ¬ (6 : Int32) ≤ nI j from nI_ge (b := 6) (by omega) (by decide))]
        unfold fX3_readNot_b12
        rw [bnd_t (x_isAtWord (w := 9) (by decide) T1)]
      rw [hX, b40 j S1 SM1 s1 p1 k1 T1, m2 j f' S1 SM1 s1 p1 k1 T1 F1]
      cases hb : isW B k1 s1 p1 9 with
      | false => exact body j S1 SM1 s1 p1 k1 (by omega) o1 o2 T1 F1 R1 g1 g2
      | true =>
        obtain ⟨S2, SM2, s2, p2, k2, a1, a2, T2, F2, a5, a6, a7⟩ := j_tok T1 F1 (isW_k hb)
        have q1 : oSame xNu S1 S2 := fun i j z => a6 i j (xNu_f z).1
        have q2 : oSame mNu SM1 SM2 := fun i j z => a7 i j (mNu_f z).1
        have hK1 := hK.on o1 o2
        have eX : fX3_readNot_b24 5000 rEx (fX3_readNot_h5 5000 rEx f) r (nI a) (nI j) (nI j) S1 = fX3_readNot_h5 5000 rEx f r (nI a) (nI (j + 1)) (nI (j + 1)) S2 := by
          unfold fX3_readNot_b24
          rw [bnd_t a1, nI_1 j]
        have eM : fX12_readNot_b12 5000 rEm (fX12_readNot_h2 5000 rEm f') (nI a) (nI j) SM1 = fX12_readNot_h2 5000 rEm f' (nI a) (nI (j + 1)) SM2 := by
          unfold fX12_readNot_b12
          rw [if_neg (show ¬ nI j = 6 from fun z => absurd ((nI_eq (b := 6) (by omega) (by omega)).mp z) (by omega))]
          unfold fX12_readNot_b23
          rw [if_pos F1.2, nI_1 j]
          unfold fX12_readNot_b33
          rw [bnd_t a2]
        show PP B n r w sg c (d + 1) s S SM (fX3_readNot_b24 5000 rEx (fX3_readNot_h5 5000 rEx f) r (nI a) (nI j) (nI j) S1) (fX12_readNot_b12 5000 rEm (fX12_readNot_h2 5000 rEm f') (nI a) (nI j) SM1)
        rw [eX, eM]
        exact ih (j + 1) f f' S2 SM2 s2 p2 k2 (by omega) (by omega) (by omega) (o1.tr (xNu.ex q1)) (o2.tr (mNu.ex q2)) T2 F2 (R1.nu hK1 q1 q2) (by omega) (by omega)
  exact main 6 0 5000 5000 S SM s p k (by omega) (by omega) (by omega) oSame.rf oSame.rf T F R hc (Nat.le_refl _)
theorem andLaw (h0 : opLaw B n r w sg d (fX3_readNot 5000 rEx r (nI a)) (fX12_readNot 5000 rEm (nI a))) (h1 : opLaw B n r w sg (d + 1) (fX3_readNot 5000 rEx r (nI a)) (fX12_readNot 5000 rEm (nI a))) : opLaw B n r w sg d (fX3_readAnd 5000 rEx r (nI a)) (fX12_readAnd 5000 rEm (nI a)) := binP h0 h1 and_st and_ft
end
