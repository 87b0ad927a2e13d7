section
variable {B : Nat → Nat} {n s p k r w sg c D N a d i : Nat} {S SM : gS}
variable {rEx : Nat → Int32 → gS → Option (Int32 × gS)} {rEm : Int32 → gS → Option (Int32 × gS)}
/-- where no EXPR may stand, the reference's pieces meet the same FAULT -/
theorem no_may {SM' : gS} (T : tkJ B n s p k S SM) (F : fine S SM) (k2 : k ≠ 2) (k1 : k ≠ 1) (h40 : isS B k s 40 = false) (hw : fX12_wrong 5000 1 SM = some (0, SM')) (hb : SM' 99 27 ≠ 0) (hE0 : ∀ SM : gS, SM 99 27 ≠ 0 → rEm (nI (a + 1)) SM = some (0, SM)) : fX12_readExpression_b62 5000 rEm (nI a) SM = some (0, SM') := by
  have hk := T.2.2.2.1
  unfold tkK at hk
  have m4 : SM 99 23 = nI k := T.2.2.1.2.2.2.2
  have nk2 : ¬ nI k = 2 := fun z => k2 ((nI_eq (b := 2) (by omega) (by omega)).mp z)
  have nk1 : ¬ nI k = 1 := fun z => k1 ((nI_eq (b := 1) (by omega) (by omega)).mp z)
  have nw : ∀ v, isW B k s p v = false := by
    intro v
    unfold isW isWl
    rw [decide_eq_false k1]
    rfl
  have mk0 : ∀ x, fX12_mark 5000 x SM' = some (0, SM') := by
    intro x
    unfold fX12_mark fX12_mark_b0
    rw [if_neg hb]
    unfold fX12_mark_b20
    rw [if_neg hb]
    rfl
  have mk : fX12_mark 5000 40 SM = some (0, SM') := by
    unfold fX12_mark fX12_mark_b0
    rw [if_pos F.2]
    unfold fX12_mark_b7
    rw [bnd_t (m_isMarked T F.2), h40]
    show fX12_mark_b15 5000 SM = _
    unfold fX12_mark_b15
    rw [bnd_t hw]
    show fX12_mark_b20 5000 SM' = _
    unfold fX12_mark_b20
    rw [if_neg hb]
    rfl
  have e1 : fX12_readPart 5000 rEm (nI a) SM = fX12_readPart 5000 rEm (nI a) SM' := by
    rw [part0 hb]
    unfold fX12_readPart fX12_readPart_b0
    rw [if_pos F.2]
    unfold fX12_readPart_b8 fX12_readPart_b29
    rw [m4, if_neg nk2, if_neg nk1]
    unfold fX12_readPart_b75
    rw [bnd_t mk, nI_1 a]
    dsimp only
    rw [bnd_t (hE0 SM' hb)]
    dsimp only
    rw [bnd_t (mk0 41)]
  have e2 : fX12_readProduct 5000 rEm (nI a) SM = fX12_readProduct 5000 rEm (nI a) SM' := by
    unfold fX12_readProduct fX12_readProduct_b0
    rw [e1]
  have e3 : fX12_readSum 5000 rEm (nI a) SM = fX12_readSum 5000 rEm (nI a) SM' := by
    unfold fX12_readSum fX12_readSum_b0
    rw [e2]
  have e4 : fX12_readNot 5000 rEm (nI a) SM = some (0, SM') := by
    show fX12_readNot_b2 5000 rEm (fX12_readNot_h2 5000 rEm 4999) (nI a) (nI 0) SM = _
    unfold fX12_readNot_b2
    rw [bnd_t (m_is (w := 40) (by decide) T F.2), nw]
    show fX12_readNot_b40 5000 rEm (nI a) (nI 0) SM = _
    have e5 : fX12_readNot_b40 5000 rEm (nI a) (nI 0) SM = fX12_readNot_b40 5000 rEm (nI a) (nI 0) SM' := by
      unfold fX12_readNot_b40
      rw [e3]
    rw [e5]
    have := not_bad (rEm := rEm) (a := a) hb (j := 0) (f := 0) (by decide)
    have h2 : fX12_readNot_h2 5000 rEm (0 + 1) (nI a) (nI 0) SM' = fX12_readNot_b40 5000 rEm (nI a) (nI 0) SM' := by
      show fX12_readNot_b2 5000 rEm (fX12_readNot_h2 5000 rEm 0) (nI a) (nI 0) SM' = _
      unfold fX12_readNot_b2
      rw [bnd_t (m_is0 hb)]
      rfl
    rw [← h2]
    exact this
  have e6 : fX12_readAnd 5000 rEm (nI a) SM = some (0, SM') := by
    unfold fX12_readAnd fX12_readAnd_b0
    rw [bnd_t e4]
    show fX12_readAnd_b5 5000 rEm (fX12_readAnd_h5 5000 rEm 4999) (nI a) SM' = _
    unfold fX12_readAnd_b5
    rw [bnd_t (m_is0 hb)]
    rfl
  unfold fX12_readExpression_b62
  rw [bnd_t e6]
  show fX12_readExpression_b67 5000 rEm (fX12_readExpression_h67 5000 rEm 4999) (nI a) SM' = _
  unfold fX12_readExpression_b67
  rw [bnd_t (m_is0 hb)]
  rfl
noncomputable def mayB (B : Nat → Nat) (k s : Nat) : Bool := decide (k = 2) || (decide (k = 1) || isS B k s 40)
theorem m_expr (T : tkJ B n s p k S SM) (F : fine S SM) : fX12_readExpression 5000 rEm (nI a) SM = if mayB B k s = true then fX12_readExpression_b51 5000 rEm (nI a) SM else fX12_readExpression_b43 5000 rEm (nI a) SM := by
  have hk := T.2.2.2.1
  unfold tkK at hk
  have m4 : SM 99 23 = nI k := T.2.2.1.2.2.2.2
  unfold fX12_readExpression fX12_readExpression_b0
  rw [if_pos F.2]
  unfold fX12_readExpression_b8 mayB
  rw [m4]
  by_cases k2 : k = 2
  · rw [if_pos (show nI k = 2 by rw [k2]; rfl), decide_eq_true k2]
    rfl
  · rw [if_neg (show ¬ nI k = 2 from fun z => k2 ((nI_eq (b := 2) (by omega) (by omega)).mp z)), decide_eq_false k2]
    unfold fX12_readExpression_b16
    rw [m4]
    by_cases k1 : k = 1
    · rw [if_pos (show nI k = 1 by rw [k1]; rfl), decide_eq_true k1]
      rfl
    · rw [if_neg (show ¬ nI k = 1 from fun z => k1 ((nI_eq (b := 1) (by omega) (by omega)).mp z)), decide_eq_false k1]
      unfold fX12_readExpression_b24
      rw [bnd_t (m_isMarked T F.2)]
      cases isS B k s 40 <;> rfl
/-- an EXPR that may stand so deep -/
theorem exprLaw (ha : a ≤ 5) (h0 : opLaw B n r w sg d (fX3_readAnd 5000 rEx r (nI a)) (fX12_readAnd 5000 rEm (nI a))) (h1 : opLaw B n r w sg (d + 1) (fX3_readAnd 5000 rEx r (nI a)) (fX12_readAnd 5000 rEm (nI a))) (hE0 : ∀ SM : gS, SM 99 27 ≠ 0 → rEm (nI (a + 1)) SM = some (0, SM)) : opLaw B n r w sg d (fX3_readExpr 5000 rEx r (nI a)) (fX12_readExpression 5000 rEm (nI a)) := by
  intro S SM c s p k T F hK R hc
  have L := binP h0 h1 or_st or_ft S SM c s p k T F hK R hc
  have hX : fX3_readExpr 5000 rEx r (nI a) S = bnd (fX3_readAnd 5000 rEx r (nI a) S) (fun q1 => fX3_readExpr_h67 5000 rEx 5000 r (nI a) 0 q1.2) := by
    unfold fX3_readExpr fX3_readExpr_b0
    rw [if_pos (show nI a ≤ 5 from nI_le (b := 5) ha (by decide))]
    rfl
  have hM : fX12_readExpression 5000 rEm (nI a) SM = bnd (fX12_readAnd 5000 rEm (nI a) SM) (fun q1 => fX12_readExpression_h67 5000 rEm 5000 (nI a) q1.2) := by
    show _ = fX12_readExpression_b62 5000 rEm (nI a) SM
    rw [m_expr T F]
    cases hm : mayB B k s with
    | true =>
      rw [if_pos rfl]
      unfold fX12_readExpression_b51
      rw [if_neg (show ¬ nI a = 6 from fun z => absurd ((nI_eq (b := 6) (by omega) (by omega)).mp z) (by omega))]
    | false =>
      rw [if_neg (by decide)]
      unfold mayB at hm
      rw [Bool.or_eq_false_iff, Bool.or_eq_false_iff] at hm
      obtain ⟨S', SM', a1, a2, a3, -⟩ := j_wrong (q := 1) (by decide) T F
      have a2 : fX12_wrong 5000 1 SM = some (0, SM') := a2
      have hb := (flt_x (N := 5000) a3).2.1
      rw [no_may T F (of_decide_eq_false hm.1) (of_decide_eq_false hm.2.1) hm.2.2 a2 hb hE0]
      unfold fX12_readExpression_b43
      rw [bnd_t a2]
      exact b62_bad hb
  rw [hX, hM]
  exact L
/-- an EXPR too deep -/
theorem deepLaw : opLaw B n r w sg d (fX3_readExpr 5000 rEx r (nI 6)) (fX12_readExpression 5000 rEm (nI 6)) := by
  intro S SM c s p k T F hK R hc
  have hk := T.2.2.2.1
  unfold tkK at hk
  have e4 : S 2 4 = nI k := T.2.1.2.2.2
  have hX : fX3_readExpr 5000 rEx r (nI 6) S = if mayB B k s = true then fX3_readExpr_b55 5000 rEx 2 S else fX3_readExpr_b55 5000 rEx 1 S := by
    unfold fX3_readExpr fX3_readExpr_b0
    rw [if_neg (by decide)]
    unfold fX3_readExpr_b5 mayB
    rw [e4]
    by_cases k2 : k = 2
    · rw [if_pos (show nI k = 2 by rw [k2]; rfl), decide_eq_true k2]
      rfl
    · rw [if_neg (show ¬ nI k = 2 from fun z => k2 ((nI_eq (b := 2) (by omega) (by omega)).mp z)), decide_eq_false k2]
      unfold fX3_readExpr_b16
      rw [e4]
      by_cases k1 : k = 1
      · rw [if_pos (show nI k = 1 by rw [k1]; rfl), decide_eq_true k1]
        rfl
      · rw [if_neg (show ¬ nI k = 1 from fun z => k1 ((nI_eq (b := 1) (by omega) (by omega)).mp z)), decide_eq_false k1]
        unfold fX3_readExpr_b27
        rw [bnd_t (x_isAtSign T)]
        cases isS B k s 40 <;> rfl
  rw [hX, m_expr T F]
  have go : ∀ q : Nat, 1 ≤ q ∧ q ≤ 5 → ∀ fm, (∀ SM', fX12_wrong 5000 (nI q) SM = some (0, SM') → SM' 99 27 ≠ 0 → fm = some ((0 : Int32), SM')) → PP B n r w sg c (d + 1) s S SM (fX3_readExpr_b55 5000 rEx (nI q) S) fm := by
    intro q hq fm hfm
    obtain ⟨S', SM', a1, a2, a3, ⟨q1, q2, s2, p2, k2, T2, -⟩⟩ := j_refuse (q := q) (G := True) hq T F
    refine ⟨0, S', 0, SM', ?_, hfm SM' a2 (flt_x (N := 5000) a3).2.1, xNu.ex q1, mNu.ex q2, s2, p2, k2, c, T2, R.2.2.1, rlJ.r3 hK R.1 q1, Or.inr a3⟩
    unfold fX3_readExpr_b55
    rw [bnd_t a1]
  cases hm : mayB B k s with
  | true =>
    rw [if_pos rfl, if_pos rfl]
    refine go 2 (by decide) _ (fun SM' a2 hb => ?_)
    unfold fX12_readExpression_b51
    rw [if_pos (by decide)]
    unfold fX12_readExpression_b57
    rw [bnd_t (show fX12_wrong 5000 2 SM = _ from a2)]
    exact b62_bad hb
  | false =>
    rw [if_neg (by decide), if_neg (by decide)]
    refine go 1 (by decide) _ (fun SM' a2 hb => ?_)
    unfold fX12_readExpression_b43
    rw [bnd_t (show fX12_wrong 5000 1 SM = _ from a2)]
    exact b62_bad hb
theorem exAll : ∀ (m a : Nat), a + m = 6 → ∀ d, d ≤ 5 * a → opLaw B n r w sg d (fX3_E 5000 (m + 2) r (nI a)) (fX12_E 5000 (m + 2) (nI a)) := by
  intro m
  induction m with
  | zero =>
    intro a ha d hd
    obtain rfl : a = 6 := by omega
    exact deepLaw
  | succ m ih =>
    intro a ha d hd
    have hE0 : ∀ SM : gS, SM 99 27 ≠ 0 → fX12_E 5000 (m + 2) (nI (a + 1)) SM = some (0, SM) := by
      intro SM hb
      show fX12_readExpression_b0 5000 (fX12_E 5000 (m + 1)) (nI (a + 1)) SM = _
      unfold fX12_readExpression_b0
      rw [if_neg hb]
      rfl
    have pa : ∀ x, x ≤ d + 5 → opLaw B n r w sg x (fX3_readPart 5000 (fX3_E 5000 (m + 2)) r (nI a)) (fX12_readPart 5000 (fX12_E 5000 (m + 2)) (nI a)) := fun x hx => partLaw (by omega) (ih (a + 1) (by omega) x (by omega)) hE0
    have pr : ∀ x, x ≤ d + 4 → opLaw B n r w sg x (fX3_readProduct 5000 (fX3_E 5000 (m + 2)) r (nI a)) (fX12_readProduct 5000 (fX12_E 5000 (m + 2)) (nI a)) := fun x hx => prodLaw (pa x (by omega)) (pa (x + 1) (by omega))
    have su : ∀ x, x ≤ d + 3 → opLaw B n r w sg x (fX3_readSum 5000 (fX3_E 5000 (m + 2)) r (nI a)) (fX12_readSum 5000 (fX12_E 5000 (m + 2)) (nI a)) := fun x hx => sumLaw (pr x (by omega)) (pr (x + 1) (by omega))
    have no : ∀ x, x ≤ d + 2 → opLaw B n r w sg x (fX3_readNot 5000 (fX3_E 5000 (m + 2)) r (nI a)) (fX12_readNot 5000 (fX12_E 5000 (m + 2)) (nI a)) := fun x hx => notLaw (su x (by omega)) (su (x + 1) (by omega))
    have an : ∀ x, x ≤ d + 1 → opLaw B n r w sg x (fX3_readAnd 5000 (fX3_E 5000 (m + 2)) r (nI a)) (fX12_readAnd 5000 (fX12_E 5000 (m + 2)) (nI a)) := fun x hx => andLaw (no x (by omega)) (no (x + 1) (by omega))
    exact exprLaw (by omega) (an d (by omega)) (an (d + 1) (by omega)) hE0
end
