theorem sg_val : ∀ i, i < 7 → sgn (10000 + nI i) = -1 - nI i ∧ (0 ≤ 10000 + nI i ∧ 10000 + nI i ≤ 10006) ∧ 10000 + nI i < 10010 ∧ ¬ nI i = -1 ∧ ¬ (10000 + nI i : Int32) = -1 := by decide +kernel
section
variable {B : Nat → Nat} {n s p k r w sg c D N a d : Nat} {S SM : gS}
/-- behind a FAULT: one code more of the class does no harm -/
theorem O_flt {S1 SM1 : gS} {x x' : Int32} {s' p' k' c' : Nat} (hK : rlK r w sg S SM) (o1 : oSame (xEx r) S S1) (o2 : oSame (mEx w sg) SM SM1) (T : tkJ B n s' p' k' S1 SM1) (c7 : c' ≤ 700) (r3 : S1 r 3 = nI c') (h : flt S1 SM1) : ∃ S2, fX4_add 5000 r x S1 = some (0, S2) ∧ fX12_lay 5000 x' SM1 = some (0, SM1) ∧ OUT B n r w sg c D s S SM S2 SM1 := by
  obtain ⟨S2, c2, a1, a2, a3, a4⟩ := x_add0 (x := x) c7 r3
  have hr : r = 14 ∨ r = 17 ∨ r = 82 ∨ r = 85 := hK.1
  refine ⟨S2, a1, m_lay0 (flt_x (N := 5000) h).2.1, o1.tr (fun i j z => ?_), o2, s', p', k', c2, T.on (fun j => a4 2 j (by omega) (by omega)) (fun j => a4 3 j (by omega) (by omega)) (fun _ _ _ => rfl) (fun _ _ => rfl), a2, a3, Or.inr ?_⟩
  · obtain ⟨z1, z2, z3, z4⟩ := xEx_f z
    exact a4 i j z3 z4
  · obtain ⟨q, q1, q2, q3, q4, q5⟩ := h
    exact ⟨q, q1, q2, by rw [a4 1 2 (by omega) (by omega)]; exact q3, q4, by rw [a4 1 3 (by omega) (by omega)]; exact q5⟩
theorem rlJ.r3 {S' : gS} (hK : rlK r w sg S SM) (h : S r 3 = nI c) (o1 : oSame xNu S S') : S' r 3 = nI c := by
  have hr : r = 14 ∨ r = 17 ∨ r = 82 ∨ r = 85 := hK.1
  exact (o1 r 3 (by rcases hr with z | z | z | z <;> rw [z] <;> rfl)).trans h
theorem partLaw {rEx : Nat → Int32 → gS → Option (Int32 × gS)} {rEm : Int32 → gS → Option (Int32 × gS)} (hd : d < 31) (hE : opLaw B n r w sg d (rEx r (nI (a + 1))) (rEm (nI (a + 1)))) (hE0 : ∀ SM : gS, SM 99 27 ≠ 0 → rEm (nI (a + 1)) SM = some (0, SM)) : opLaw B n r w sg d (fX3_readPart 5000 rEx r (nI a)) (fX12_readPart 5000 rEm (nI a)) := by
  intro S SM c s p k T F hK R hc
  have n7 := T.1.1
  have hk := T.2.2.2.1
  unfold tkK at hk
  have e4 : S 2 4 = nI k := T.2.1.2.2.2
  have m4 : SM 99 23 = nI k := T.2.2.1.2.2.2.2
  have hX0 : fX3_readPart 5000 rEx r (nI a) S = if iv (isS B k s 40) = 0 then fX3_readPart_b36 5000 rEx r S else fX3_readPart_b12 5000 rEx r (nI a) S := by
    unfold fX3_readPart fX3_readPart_b0
    rw [bnd_t (x_isAtSign T)]
  have hM0 : fX12_readPart 5000 rEm (nI a) SM = if nI k = 2 then fX12_readPart_b16 5000 rEm SM else if nI k = 1 then fX12_readPart_b37 5000 rEm SM else fX12_readPart_b75 5000 rEm (nI a) SM := by
    unfold fX12_readPart fX12_readPart_b0
    rw [if_pos F.2]
    unfold fX12_readPart_b8 fX12_readPart_b29
    rw [m4]
  cases hb : isS B k s 40 with
  | true =>
    have k3 : k = 3 := by
      unfold isS at hb
      rw [Bool.and_eq_true] at hb
      exact of_decide_eq_true hb.1
    obtain ⟨S1, SM1, s1, p1, k1, a1, a2, T1, F1, a5, a6, a7⟩ := j_tok T F (by omega)
    have o1 : oSame xNu S S1 := fun i j z => a6 i j (xNu_f z).1
    have o2 : oSame mNu SM SM1 := fun i j z => a7 i j (mNu_f z).1
    have x1 := xNu.ex (r := r) o1
    have x2 := mNu.ex (w := w) (sg := sg) o2
    have hK1 := hK.on x1 x2
    obtain ⟨v, S2, v', SM2, b1, b2, u1, u2, s2, p2, k2, c2, T2, c7, r3, h⟩ := hE S1 SM1 c s1 p1 k1 T1 F1 hK1 (R.nu hK o1 o2) (by omega)
    have mk : fX12_mark 5000 40 SM = some (0, SM1) := by
      unfold fX12_mark fX12_mark_b0
      rw [if_pos F.2]
      unfold fX12_mark_b7
      rw [bnd_t (m_isMarked T F.2), hb]
      show fX12_mark_b20 5000 SM = _
      unfold fX12_mark_b20
      rw [if_pos F.2]
      unfold fX12_mark_b27
      rw [bnd_t a2]
      rfl
    have hX : fX3_readPart 5000 rEx r (nI a) S = bnd (fX3_skipSign 5000 41 S2) (fun q3 => fX3_readPart_b95 5000 rEx q3.2) := by
      rw [hX0, hb]
      show fX3_readPart_b12 5000 rEx r (nI a) S = _
      unfold fX3_readPart_b12
      rw [bnd_t a1, nI_1 a]
      dsimp only
      rw [bnd_t b1]
    have hM : fX12_readPart 5000 rEm (nI a) SM = bnd (fX12_mark 5000 41 SM2) (fun q3 => some (0, q3.2)) := by
      rw [hM0, k3, if_neg (by decide), if_neg (by decide)]
      unfold fX12_readPart_b75
      rw [bnd_t mk, nI_1 a]
      dsimp only
      rw [bnd_t b2]
    have hK2 := hK1.on u1 u2
    rw [hX, hM]
    rcases h with ⟨F2, R2, e, e1, e2⟩ | h
    · obtain ⟨S3, SM3, d1, d2, ⟨d3, d4, s3, p3, k3', T3, d5⟩, -⟩ := j_skip (x := 41) T2 F2
      rw [bnd_t d1, bnd_t d2]
      refine ⟨0, S3, 0, SM3, rfl, rfl, (x1.tr u1).tr (xNu.ex d3), (x2.tr u2).tr (mNu.ex d4), s3, p3, k3', c2, T3, c7, rlJ.r3 hK2 r3 d3, ?_⟩
      rcases d5 with ⟨F3, f1, -⟩ | d5
      · exact Or.inl ⟨F3, R2.nu hK2 d3 d4, e, e1, by omega⟩
      · exact Or.inr d5
    · obtain ⟨d1, d2⟩ := j_skip0 (x := 41) T2 h
      rw [bnd_t d1, bnd_t d2]
      exact ⟨0, S2, 0, SM2, rfl, rfl, x1.tr u1, x2.tr u2, s2, p2, k2, c2, T2, c7, r3, Or.inr h⟩
  | false =>
    have hX1 : fX3_readPart 5000 rEx r (nI a) S = if nI k = 1 then fX3_readPart_b62 5000 rEx r S else fX3_readPart_b47 5000 rEx r S := by
      rw [hX0, hb]
      show fX3_readPart_b36 5000 rEx r S = _
      unfold fX3_readPart_b36
      rw [e4]
    by_cases k2 : k = 2
    · subst k2
      obtain ⟨v, S1, v', SM1, a1, a2, ⟨o1, o2, s1, p1, k1, T1, h⟩, -⟩ := j_num (lo := 0) (hi := 9999) (by decide) (by decide) T F
      have x1 := xNu.ex (r := r) o1
      have x2 := mNu.ex (w := w) (sg := sg) o2
      have hX : fX3_readPart 5000 rEx r (nI a) S = bnd (fX4_add 5000 r v S1) (fun q2 => fX3_readPart_b95 5000 rEx q2.2) := by
        rw [hX1, if_neg (by decide)]
        unfold fX3_readPart_b47
        rw [bnd_t (show fX3_readNumber 5000 0 9999 S = _ from a1)]
      have hM : fX12_readPart 5000 rEm (nI a) SM = bnd (fX12_lay 5000 v' SM1) (fun q2 => some (0, q2.2)) := by
        rw [hM0, if_pos (by decide)]
        unfold fX12_readPart_b16
        rw [bnd_t (show fX12_readNumber 5000 0 9999 SM = _ from a2)]
      rw [hX, hM]
      rcases h with ⟨F1, e1, -, y, y1, y2, rfl, rfl⟩ | h
      · have hk1 := T1.2.2.2.1
        unfold tkK at hk1
        have ok : okX (nI y) d (d + 1) := by
          refine ⟨Or.inl ⟨⟨nI_le (a := 0) (by omega) (by omega), nI_le (b := 10006) (by omega) (by decide)⟩, hd⟩, ?_⟩
          rw [if_pos (show nI y < 10010 from nI_lt (b := 10010) (by omega) (by decide))]
        have es : sgn (nI y) = nI y := by
          unfold sgn
          rw [if_pos (show nI y ≤ 9999 from nI_le (b := 9999) y2 (by decide))]
        obtain ⟨S2, SM2, b1, b2, T2, F2, R2, b6, b7⟩ := j_add T1 F1 (hK.on x1 x2) (R.nu hK o1 o2) (by omega) ok
        rw [es] at b2
        rw [bnd_t b1, bnd_t b2]
        exact ⟨0, S2, 0, SM2, rfl, rfl, x1.tr b6, x2.tr b7, s1, p1, k1, c + 1, T2, R2.2.2.1, R2.1, Or.inl ⟨F2, R2, 1, rfl, e1⟩⟩
      · obtain ⟨S2, b1, b2, O⟩ := O_flt (c := c) (D := d + 1) (s := s) (x := v) (x' := v') hK x1 x2 T1 R.2.2.1 (rlJ.r3 hK R.1 o1) h
        rw [bnd_t b1, bnd_t b2]
        exact ⟨0, S2, 0, SM1, rfl, rfl, O⟩
    · have nk2 : ¬ nI k = 2 := fun z => k2 ((nI_eq (b := 2) (by omega) (by omega)).mp z)
      by_cases k1 : k = 1
      · subst k1
        have hsp := hk.2.2.2.2 (by decide)
        obtain ⟨l, L, hl1, hl2, hl3⟩ : ∃ l L, ((l = 1 ∧ L = 6 ∧ S r 2 = 0) ∨ (l = 2 ∧ L = 7 ∧ S r 2 = 1)) ∧ (if SM 99 3 = 0 then 1 else 2) = l ∧ L ≤ 7 := by
          rcases hK.2 with ⟨-, -, -, q1, q2⟩ | ⟨-, -, -, q1, q2⟩
          · exact ⟨1, 6, Or.inl ⟨rfl, rfl, q2⟩, by rw [q1]; rfl, by decide⟩
          · exact ⟨2, 7, Or.inr ⟨rfl, rfl, q2⟩, by rw [q1]; rfl, by decide⟩
        have hv := x_valueCode hl1 T
        have hw := m_which (l := l) (L := L) (by omega) T F
        rw [← hl2] at hw
        have hX : fX3_readPart 5000 rEx r (nI a) S = fX3_readPart_b62 5000 rEx r S := by
          rw [hX1, if_pos (by decide)]
        have hM : fX12_readPart 5000 rEm (nI a) SM = fX12_readPart_b37 5000 rEm SM := by
          rw [hM0, if_neg (by decide), if_pos (by decide)]
        rw [hX, hM]
        unfold fX3_readPart_b62 fX12_readPart_b37
        rw [bnd_t hv, bnd_t hw, hl2]
        unfold owV
        by_cases q : fsK (fun i => isW B 1 s p (mS l i)) L < L
        · obtain ⟨i, hi⟩ : ∃ i, i = fsK (fun i => isW B 1 s p (mS l i)) L := ⟨_, rfl⟩
          obtain ⟨g1, g2, g3, g4, g5⟩ := sg_val i (by omega)
          have eo : owV (fun i => isW B 1 s p (mS l i)) L = nI i := by
            unfold owV
            rw [if_pos q, hi]
          rw [if_pos q, ← hi]
          dsimp only
          rw [if_neg g4, if_neg g5, if_neg g4]
          have ok : okX (10000 + nI i) d (d + 1) := ⟨Or.inl ⟨g2, hd⟩, by rw [if_pos g3]⟩
          obtain ⟨S2, SM2, b1, b2, T2, F2, R2, b6, b7⟩ := j_add T F hK R (by omega) ok
          obtain ⟨S3, SM3, s3, p3, k3, c1, c2, T3, F3, c5, c6, c7⟩ := j_tok T2 F2 (by decide)
          have o1 : oSame xNu S2 S3 := fun i j z => c6 i j (xNu_f z).1
          have o2 : oSame mNu SM2 SM3 := fun i j z => c7 i j (mNu_f z).1
          have hK2 := hK.on b6 b7
          have R3 := R2.nu hK2 o1 o2
          refine ⟨0, S3, 0, SM3, ?_, ?_, b6.tr (xNu.ex o1), b7.tr (mNu.ex o2), s3, p3, k3, c + 1, T3, R3.2.2.1, R3.1, Or.inl ⟨F3, R3, 1, rfl, c5⟩⟩
          · unfold fX3_readPart_b79
            rw [bnd_t hv, eo, if_neg g4]
            dsimp only
            rw [bnd_t b1]
            dsimp only
            rw [bnd_t c1]
            rfl
          · unfold fX12_readPart_b56
            rw [← g1, bnd_t b2]
            show (if SM2 99 27 = 0 then _ else _) = _
            rw [if_pos F2.2]
            unfold fX12_readPart_b70
            rw [bnd_t c2]
            rfl
        · rw [if_neg q, if_pos rfl]
          dsimp only
          rw [if_pos rfl, if_pos rfl]
          obtain ⟨S', SM', a1, a2, a3, ⟨o1, o2, s1, p1, k1, T1, -⟩⟩ := j_refuse (q := 3) (G := True) (by decide) T F
          refine ⟨0, S', 0, SM', ?_, ?_, xNu.ex o1, mNu.ex o2, s1, p1, k1, c, T1, R.2.2.1, rlJ.r3 hK R.1 o1, Or.inr a3⟩
          · unfold fX3_readPart_b71
            rw [bnd_t (show fX3_refuse 5000 3 S = _ from a1)]
            rfl
          · unfold fX12_readPart_b51
            rw [bnd_t (show fX12_wrong 5000 3 SM = _ from a2)]
            unfold fX12_readPart_b56
            have f2 := (flt_x (N := 5000) a3).2.1
            rw [bnd_t (m_lay0 f2)]
            show (if SM' 99 27 = 0 then _ else _) = _
            rw [if_neg f2]
            rfl
      · have nk1 : ¬ nI k = 1 := fun z => k1 ((nI_eq (b := 1) (by omega) (by omega)).mp z)
        obtain ⟨S', SM', a1, a2, a3, ⟨o1, o2, s1, p1, k1', T1, -⟩⟩ := j_refuse (q := 1) (G := True) (by decide) T F
        obtain ⟨f1, f2, f3⟩ := flt_x (N := 5000) a3
        obtain ⟨S2, b1, b2, O⟩ := O_flt (c := c) (D := d + 1) (s := s) (x := S' 2 6) (x' := 0) hK (xNu.ex o1) (mNu.ex o2) T1 R.2.2.1 (rlJ.r3 hK R.1 o1) a3
        refine ⟨0, S2, 0, SM', ?_, ?_, O⟩
        · rw [hX1, if_neg nk1]
          unfold fX3_readPart_b47
          have rn : fX3_readNumber 5000 0 9999 S = some (S' 2 6, S') := by
            unfold fX3_readNumber fX3_readNumber_b0
            rw [e4, if_neg nk2]
            unfold fX3_readNumber_b11
            rw [bnd_t (show fX3_refuse 5000 1 S = _ from a1)]
            show fX3_readNumber_b39 5000 S' = _
            unfold fX3_readNumber_b39
            rw [bnd_t f1]
            rfl
          rw [bnd_t rn]
          dsimp only
          rw [bnd_t b1]
          rfl
        · rw [hM0, if_neg nk2, if_neg nk1]
          unfold fX12_readPart_b75
          have mk : fX12_mark 5000 40 SM = some (0, SM') := by
            unfold fX12_mark fX12_mark_b0
            rw [if_pos F.2]
            unfold fX12_mark_b7
            rw [bnd_t (m_isMarked T F.2), hb]
            show fX12_mark_b15 5000 SM = _
            unfold fX12_mark_b15
            rw [bnd_t (show fX12_wrong 5000 1 SM = _ from a2)]
            show fX12_mark_b20 5000 SM' = _
            unfold fX12_mark_b20
            rw [if_neg f2]
            rfl
          rw [bnd_t mk, nI_1 a]
          dsimp only
          rw [bnd_t (hE0 SM' f2)]
          dsimp only
          rw [bnd_t (j_skip0 (x := 41) T1 a3).2]
end
