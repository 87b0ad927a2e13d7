section
variable {B : Nat → Nat} {n s p k r w sg c D N a d i : Nat} {S SM : gS}
variable {rEx : Nat → Int32 → gS → Option (Int32 × gS)} {rEm : Int32 → gS → Option (Int32 × gS)}
theorem testLaw {x2 : Int32} (h0 : opLaw B n r w sg d (fX3_readSum 5000 rEx r (nI a)) (fX12_readSum 5000 rEm (nI a))) (h1 : opLaw B n r w sg (d + 1) (fX3_readSum 5000 rEx r (nI a)) (fX12_readSum 5000 rEm (nI a))) (T : tkJ B n s p k S SM) (F : fine S SM) (hK : rlK r w sg S SM) (R : rlJ r w sg c d S SM) (hc : c ≤ s) : ∃ v S' SM', fX3_readTest 5000 rEx r (nI a) S = some (v, S') ∧ fX12_readNot_b40 5000 rEm (nI a) x2 SM = fX12_readNot_b94 5000 rEm x2 SM' ∧ OUT B n r w sg c (d + 1) s S SM S' SM' := by
  obtain ⟨v, S1, v', SM1, b1, b2, u1, u2, s1, p1, k1, c1, T1, c7, r3, h⟩ := h0 S SM c s p k T F hK R hc
  have hK1 := hK.on u1 u2
  have hX0 : ∀ y, fX3_isFine 5000 S1 = some (y, S1) → fX3_readTest 5000 rEx r (nI a) S = if y = 0 then some (0, S1) else fX3_readTest_b23 5000 rEx r (nI a) (iv (isS B k1 s1 60)) S1 := by
    intro y hy
    unfold fX3_readTest fX3_readTest_b0
    rw [bnd_t b1]
    dsimp only
    rw [bnd_t (x_isAtSign T1)]
    dsimp only
    rw [bnd_t hy]
    rfl
  rcases h with ⟨F1, R1, e, e1, e2⟩ | h
  · have n7 := T1.1.1
    have hM0 : fX12_readNot_b40 5000 rEm (nI a) x2 SM = if iv (isS B k1 s1 60) = 0 then fX12_readNot_b54 5000 rEm (nI a) x2 SM1 else fX12_readNot_b63 5000 rEm (nI a) x2 SM1 := by
      unfold fX12_readNot_b40
      rw [bnd_t b2]
      dsimp only
      rw [bnd_t (m_isMarked T1 F1.2)]
    have e63 : fX12_readNot_b63 5000 rEm (nI a) x2 SM1 = if iv (isS B k1 s1 60) = 0 then fX12_readNot_b79 5000 rEm (nI a) x2 (-25) SM1 else fX12_readNot_b79 5000 rEm (nI a) x2 (-24) SM1 := by
      unfold fX12_readNot_b63
      rw [bnd_t (m_isMarked T1 F1.2)]
      rfl
    have e54 : fX12_readNot_b54 5000 rEm (nI a) x2 SM1 = if iv (isS B k1 s1 61) = 0 then fX12_readNot_b94 5000 rEm x2 SM1 else fX12_readNot_b63 5000 rEm (nI a) x2 SM1 := by
      unfold fX12_readNot_b54
      rw [bnd_t (m_isMarked T1 F1.2)]
    have e27 : ∀ y, fX3_readTest_b27 5000 rEx r (nI a) y S1 = if iv (isS B k1 s1 61) = 0 then some (0, S1) else fX3_readTest_b39 5000 rEx r (nI a) y S1 := by
      intro y
      unfold fX3_readTest_b27
      rw [bnd_t (x_isAtSign T1)]
      rfl
    have two : ∀ x : Int32, (10011 ≤ x ∧ x ≤ 10018) → k1 ≠ 0 → ∃ S3 SM3, bnd (fX8_advance 5000 S1) (fun q1 => bnd (fX3_readSum 5000 rEx r (nI a) q1.2) (fun q2 => bnd (fX4_add 5000 r x q2.2) (fun q3 => some ((0 : Int32), q3.2)))) = some (0, S3) ∧ fX12_readNot_b79 5000 rEm (nI a) x2 (sgn x) SM1 = fX12_readNot_b94 5000 rEm x2 SM3 ∧ OUT B n r w sg c (d + 1) s S SM S3 SM3 := by
      intro x hx k0
      obtain ⟨S2, SM2, s2, p2, k2, a1, a2, T2, F2, a5, a6, a7⟩ := j_tok T1 F1 k0
      have o1 : oSame xNu S1 S2 := fun i j z => a6 i j (xNu_f z).1
      have o2 : oSame mNu SM1 SM2 := fun i j z => a7 i j (mNu_f z).1
      have x1 := xNu.ex (r := r) o1
      have y1 := mNu.ex (w := w) (sg := sg) o2
      have hK2 := hK1.on x1 y1
      obtain ⟨v3, S3, v3', SM3, g1, g2, O3⟩ := h1 S2 SM2 c1 s2 p2 k2 T2 F2 hK2 (R1.nu hK1 o1 o2) (by omega)
      obtain ⟨S4, SM4, d1, d2, o3, o4, s4, p4, k4, c4, T4, c47, r4, h4⟩ := P_add (x := x) (s0 := s1) hK2 (by omega) (by omega) (okX_b hx (by omega)) O3
      refine ⟨S4, SM4, ?_, ?_, (u1.tr x1).tr o3, (u2.tr y1).tr o4, s4, p4, k4, c4, T4, c47, r4, ?_⟩
      · rw [bnd_t a1]
        dsimp only
        rw [bnd_t g1]
        dsimp only
        rw [bnd_t d1]
      · unfold fX12_readNot_b79
        rw [bnd_t a2]
        dsimp only
        rw [bnd_t g2]
        dsimp only
        rw [bnd_t d2]
      · rcases h4 with ⟨F4, R4, e', -, e1', e2'⟩ | h4
        · exact Or.inl ⟨F4, R4, e + e', by omega, by omega⟩
        · exact Or.inr h4
    have hXf := hX0 1 (fine_x F1)
    rw [if_neg (by decide)] at hXf
    unfold fX3_readTest_b23 at hXf
    cases q1 : isS B k1 s1 60 with
    | true =>
      obtain ⟨S3, SM3, g1, g2, O⟩ := two 10013 (by decide) (isS_k q1)
      refine ⟨0, S3, SM3, ?_, ?_, O⟩
      · rw [hXf, q1, ← g1]
        rfl
      · rw [hM0, e63, q1, ← g2, show sgn 10013 = -24 by decide]
        rfl
    | false =>
      rw [q1] at hXf hM0 e63
      cases q2 : isS B k1 s1 61 with
      | true =>
        obtain ⟨S3, SM3, g1, g2, O⟩ := two 10014 (by decide) (isS_k q2)
        refine ⟨0, S3, SM3, ?_, ?_, O⟩
        · rw [hXf, e27, q2, ← g1]
          rfl
        · rw [hM0, e54, e63, q2, ← g2, show sgn 10014 = -25 by decide]
          rfl
      | false =>
        refine ⟨0, S1, SM1, ?_, ?_, u1, u2, s1, p1, k1, c1, T1, c7, r3, Or.inl ⟨F1, R1, e, e1, e2⟩⟩
        · rw [hXf, e27, q2]
          rfl
        · rw [hM0, e54, q2]
          rfl
  · obtain ⟨f1, f2, f3⟩ := flt_x (N := 5000) h
    refine ⟨0, S1, SM1, ?_, ?_, u1, u2, s1, p1, k1, c1, T1, c7, r3, Or.inr h⟩
    · rw [hX0 0 f1]
      rfl
    · unfold fX12_readNot_b40
      rw [bnd_t b2]
      dsimp only
      rw [bnd_t (m_isMarked0 f2)]
      show fX12_readNot_b54 5000 rEm (nI a) x2 SM1 = _
      unfold fX12_readNot_b54
      rw [bnd_t (m_isMarked0 f2)]
      rfl
/-- the NOTS are laid behind -/
theorem notAdd {j : Nat} (hj : j ≤ 6) (hD : 1 ≤ D) (hK : rlK r w sg S SM) : ∀ (m i f f' : Nat) (S1 SM1 : gS) (c1 s1 p1 k1 : Nat), i + m = j → m < f → m < f' → oSame (xEx r) S S1 → oSame (mEx w sg) SM SM1 → tkJ B n s1 p1 k1 S1 SM1 → c1 ≤ 700 → S1 r 3 = nI c1 → fine S1 SM1 → rlJ r w sg c1 D S1 SM1 → c1 + m ≤ s1 → ∃ S2 SM2 c2, fX3_readNot_h67 5000 rEx f r (nI j) (nI i) S1 = some (0, S2) ∧ fX12_readNot_h96 5000 rEm f' (nI j) (nI i) SM1 = some (0, SM2) ∧ oSame (xEx r) S S2 ∧ oSame (mEx w sg) SM SM2 ∧ tkJ B n s1 p1 k1 S2 SM2 ∧ c2 ≤ 700 ∧ S2 r 3 = nI c2 ∧ (fine S2 SM2 ∧ rlJ r w sg c2 D S2 SM2 ∧ c2 = c1 + m) := by
  intro m
  induction m with
  | zero =>
    intro i f f' S1 SM1 c1 s1 p1 k1 hi hf hf' o1 o2 T c7 r3 F1 R1 g
    obtain ⟨f, rfl⟩ : ∃ y, f = y + 1 := ⟨f - 1, by omega⟩
    obtain ⟨f', rfl⟩ : ∃ y, f' = y + 1 := ⟨f' - 1, by omega⟩
    refine ⟨S1, SM1, c1, ?_, ?_, o1, o2, T, c7, r3, ?_⟩
    · show fX3_readNot_b67 5000 rEx _ r (nI j) (nI i) S1 = _
      unfold fX3_readNot_b67
      rw [if_pos (nI_le (by omega) (by omega))]
      rfl
    · show fX12_readNot_b96 5000 rEm _ (nI j) (nI i) SM1 = _
      unfold fX12_readNot_b96
      rw [if_pos (nI_le (by omega) (by omega))]
      rfl
    · exact ⟨F1, R1, rfl⟩
  | succ m ih =>
    intro i f f' S1 SM1 c1 s1 p1 k1 hi hf hf' o1 o2 T c7 r3 F1 R1 g
    obtain ⟨f, rfl⟩ : ∃ y, f = y + 1 := ⟨f - 1, by omega⟩
    obtain ⟨f', rfl⟩ : ∃ y, f' = y + 1 := ⟨f' - 1, by omega⟩
    have eX : ∀ S2, fX4_add 5000 r 10010 S1 = some (0, S2) → fX3_readNot_h67 5000 rEx (f + 1) r (nI j) (nI i) S1 = fX3_readNot_h67 5000 rEx f r (nI j) (nI (i + 1)) S2 := by
      intro S2 q
      show fX3_readNot_b67 5000 rEx (fX3_readNot_h67 5000 rEx f) r (nI j) (nI i) S1 = _
      unfold fX3_readNot_b67
      rw [if_neg (nI_ge (by omega) (by omega))]
      unfold fX3_readNot_b73
      rw [bnd_t q, nI_1 i]
    have eM : ∀ SM2, fX12_lay 5000 (-28) SM1 = some (0, SM2) → fX12_readNot_h96 5000 rEm (f' + 1) (nI j) (nI i) SM1 = fX12_readNot_h96 5000 rEm f' (nI j) (nI (i + 1)) SM2 := by
      intro SM2 q
      show fX12_readNot_b96 5000 rEm (fX12_readNot_h96 5000 rEm f') (nI j) (nI i) SM1 = _
      unfold fX12_readNot_b96
      rw [if_neg (nI_ge (by omega) (by omega))]
      unfold fX12_readNot_b101
      rw [bnd_t q, nI_1 i]
    have n7 := T.1.1
    have hk := T.2.2.2.1
    unfold tkK at hk
    obtain ⟨S2, SM2, b1, b2, T2, F2, R2, b6, b7⟩ := j_add (x := 10010) (D' := D) T F1 (hK.on o1 o2) R1 (by omega) ⟨Or.inr (Or.inl ⟨rfl, hD⟩), by rw [if_neg (by decide), if_pos rfl]⟩
    rw [show sgn 10010 = -28 by decide] at b2
    rw [eX S2 b1, eM SM2 b2]
    obtain ⟨S3, SM3, c3, z1, z2, z3, z4, z5, z6, z7, y1, y2, y3⟩ := ih (i + 1) f f' S2 SM2 (c1 + 1) s1 p1 k1 (by omega) (by omega) (by omega) (o1.tr b6) (o2.tr b7) T2 R2.2.2.1 R2.1 F2 R2 (by omega)
    exact ⟨S3, SM3, c3, z1, z2, z3, z4, z5, z6, z7, y1, y2, by omega⟩
theorem notAdd0 {j : Nat} (hj : j ≤ 7) (hK : rlK r w sg S SM) : ∀ (m i f f' : Nat) (S1 SM1 : gS) (c1 s1 p1 k1 : Nat), i + m = j → m < f → m < f' → oSame (xEx r) S S1 → oSame (mEx w sg) SM SM1 → tkJ B n s1 p1 k1 S1 SM1 → c1 ≤ 700 → S1 r 3 = nI c1 → flt S1 SM1 → ∃ S2 SM2 c2, fX3_readNot_h67 5000 rEx f r (nI j) (nI i) S1 = some (0, S2) ∧ fX12_readNot_h96 5000 rEm f' (nI j) (nI i) SM1 = some (0, SM2) ∧ oSame (xEx r) S S2 ∧ oSame (mEx w sg) SM SM2 ∧ tkJ B n s1 p1 k1 S2 SM2 ∧ c2 ≤ 700 ∧ S2 r 3 = nI c2 ∧ flt S2 SM2 := by
  intro m
  induction m with
  | zero =>
    intro i f f' S1 SM1 c1 s1 p1 k1 hi hf hf' o1 o2 T c7 r3 h
    obtain ⟨f, rfl⟩ : ∃ y, f = y + 1 := ⟨f - 1, by omega⟩
    obtain ⟨f', rfl⟩ : ∃ y, f' = y + 1 := ⟨f' - 1, by omega⟩
    refine ⟨S1, SM1, c1, ?_, ?_, o1, o2, T, c7, r3, ?_⟩
    · show fX3_readNot_b67 5000 rEx _ r (nI j) (nI i) S1 = _
      unfold fX3_readNot_b67
      rw [if_pos (nI_le (by omega) (by omega))]
      rfl
    · show fX12_readNot_b96 5000 rEm _ (nI j) (nI i) SM1 = _
      unfold fX12_readNot_b96
      rw [if_pos (nI_le (by omega) (by omega))]
      rfl
    · exact h
  | succ m ih =>
    intro i f f' S1 SM1 c1 s1 p1 k1 hi hf hf' o1 o2 T c7 r3 h
    obtain ⟨f, rfl⟩ : ∃ y, f = y + 1 := ⟨f - 1, by omega⟩
    obtain ⟨f', rfl⟩ : ∃ y, f' = y + 1 := ⟨f' - 1, by omega⟩
    have eX : ∀ S2, fX4_add 5000 r 10010 S1 = some (0, S2) → fX3_readNot_h67 5000 rEx (f + 1) r (nI j) (nI i) S1 = fX3_readNot_h67 5000 rEx f r (nI j) (nI (i + 1)) S2 := by
      intro S2 q
      show fX3_readNot_b67 5000 rEx (fX3_readNot_h67 5000 rEx f) r (nI j) (nI i) S1 = _
      unfold fX3_readNot_b67
      rw [if_neg (nI_ge (by omega) (by omega))]
      unfold fX3_readNot_b73
      rw [bnd_t q, nI_1 i]
    have eM : ∀ SM2, fX12_lay 5000 (-28) SM1 = some (0, SM2) → fX12_readNot_h96 5000 rEm (f' + 1) (nI j) (nI i) SM1 = fX12_readNot_h96 5000 rEm f' (nI j) (nI (i + 1)) SM2 := by
      intro SM2 q
      show fX12_readNot_b96 5000 rEm (fX12_readNot_h96 5000 rEm f') (nI j) (nI i) SM1 = _
      unfold fX12_readNot_b96
      rw [if_neg (nI_ge (by omega) (by omega))]
      unfold fX12_readNot_b101
      rw [bnd_t q, nI_1 i]
    have n7 := T.1.1
    have hk := T.2.2.2.1
    unfold tkK at hk
    obtain ⟨S2, c2, b1, y2, y3, y4⟩ := x_add0 (x := 10010) c7 r3
    have b2 : fX12_lay 5000 (-28) SM1 = some (0, SM1) := m_lay0 (flt_x (N := 5000) h).2.1
    have hr : r = 14 ∨ r = 17 ∨ r = 82 ∨ r = 85 := hK.1
    have h2 : flt S2 SM1 := by
      obtain ⟨q, q1, q2, q3, q4, q5⟩ := h
      exact ⟨q, q1, q2, by rw [y4 1 2 (by omega) (by omega)]; exact q3, q4, by rw [y4 1 3 (by omega) (by omega)]; exact q5⟩
    have T2 : tkJ B n s1 p1 k1 S2 SM1 := T.on (fun j => y4 2 j (by omega) (by omega)) (fun j => y4 3 j (by omega) (by omega)) (fun _ _ _ => rfl) (fun _ _ => rfl)
    rw [eX S2 b1, eM SM1 b2]
    exact ih (i + 1) f f' S2 SM1 c2 s1 p1 k1 (by omega) (by omega) (by omega) (o1.tr (fun i j z => by
      obtain ⟨z1, z2, z3, z4⟩ := xEx_f z
      exact y4 i j z3 z4)) o2 T2 y2 y3 h2
end
