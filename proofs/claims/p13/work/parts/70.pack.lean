/-! part 9796.lineall -/
section
section
variable {B : Nat → Nat} {n s p k U g0 g1 nw b c1 c2 tk : Nat} {S SM S' SM' S1 SM1 S2 SM2 : gS}
theorem and00 (d : Int32) : (0 : Int32) &&& d = 0 := bb_ext (fun i _ => by rw [bb_and, bb_0, Bool.false_and])
/-- told twice -/
theorem L_twice {RX : Option (Int32 × gS)} {d x3 : Int32} (hT : U = 72 ∨ U = 4) (T : tkJ B n s p k S SM) (F : fine S SM) (h3 : ¬ x3 ≤ 0) (hb : ¬ (x3 &&& d) = 0) (eX : fX3_readLine 5000 S = bnd RX (fun q1 => some (0, q1.2))) (eM : fX12_readLine 5000 d SM = fX12_readLine_b66 5000 d (-1) x3 SM) (hR : ∀ S', fX3_refuse 5000 5 S = some (0, S') → RX = some (0, S')) : ∃ S' v SM', bnd (fX3_readLine 5000 S) (fun q1 => fX3_skipSign 5000 59 q1.2) = some (0, S') ∧ fX12_readLine 5000 d SM = some (v, SM') ∧ LIN B n U s S SM S' SM' v := by
  obtain ⟨S1, SM1, a1, a2, a3, a4⟩ := j_refuse (q := 5) (G := False) (by decide) T F
  have hb5 := (flt_x (N := 5000) a3).2.1
  refine L_fin hT eX (Y := fX12_wrong 5000 5 SM) (x3 := x3) (eM.trans ?_) ⟨S1, SM1, hR S1 a1, a2, a4.lin a3⟩
  unfold fX12_readLine_b66
  rw [if_neg hb]
  unfold fX12_readLine_b73
  rw [bnd_t (show fX12_wrong 5000 5 SM = _ from a2), bnd_t (show fX12_wrong 5000 5 SM = _ from a2)]
  show fX12_readLine_b78 5000 d (-1) x3 SM1 = fX12_readLine_b132 5000 d x3 SM1
  unfold fX12_readLine_b78
  rw [if_neg h3]
  unfold fX12_readLine_b82
  rw [if_neg hb5]
  unfold fX12_readLine_b97
  rw [if_pos rfl]
  unfold fX12_readLine_b110
  rw [bnd_t (m_is0 hb5)]
  show fX12_readLine_b127 5000 d x3 SM1 = _
  unfold fX12_readLine_b127
  rw [bnd_t (m_wrong0 hb5)]
/-- a LINE, with its mark -/
theorem L_line (hd : drK U g0 g1 nw b c1 c2 tk S SM) (hU : xdr S = U) (T : tkJ B n s p k S SM) (F : fine S SM) (k0 : k ≠ 0) : ∃ S' v SM', bnd (fX3_readLine 5000 S) (fun q1 => fX3_skipSign 5000 59 q1.2) = some (0, S') ∧ fX12_readLine 5000 (doneV nw b c1 c2) SM = some (v, SM') ∧ LIN B n U s S SM S' SM' v := by
  have hT := xdr_cases (S := S)
  rw [hU] at hT
  have eX := x_line T
  have eM := m_line (d := doneV nw b c1 c2) T F
  obtain ⟨⟨n1, n2, n4, n8⟩, o0, o1, o2, o4, o8⟩ := dnB (nw := nw) (b := b) (c1 := c1) (c2 := c2)
  have zero : ∀ x2, fX12_readLine_b66 5000 (doneV nw b c1 c2) x2 0 SM = fX12_readLine_b97 5000 (doneV nw b c1 c2) x2 0 SM := by
    intro x2
    unfold fX12_readLine_b66
    rw [if_pos (and00 _)]
    unfold fX12_readLine_b78
    rw [if_pos (by decide)]
  have once : ∀ x3 : Int32, ¬ x3 ≤ 0 → (x3 &&& doneV nw b c1 c2) = 0 → fX12_readLine_b66 5000 (doneV nw b c1 c2) (-1) x3 SM = bnd (fX12_sayOnce 5000 x3 SM) (fun q1 => fX12_readLine_b132 5000 (doneV nw b c1 c2) x3 q1.2) := by
    intro x3 z1 z2
    unfold fX12_readLine_b66
    rw [if_pos z2]
    unfold fX12_readLine_b78
    rw [if_neg z1]
    unfold fX12_readLine_b82
    rw [if_pos F.2]
    rfl
  cases h2 : isW B k s p 2 with
  | true =>
    rw [if_pos h2] at eX
    have x2 : owV (fun i => isW B k s p (mS 0 i)) 2 = 0 := (owV_an (v := nI 0) (Or.inl ⟨0, by omega, h2, fun j hj => absurd hj (by omega), rfl⟩)).symm
    rw [x2, isW_x h2 (show sB.getD 2 [] ≠ sB.getD 6 [] by decide), isW_x h2 (show sB.getD 2 [] ≠ sB.getD 7 [] by decide), isW_x h2 (show sB.getD 2 [] ≠ sB.getD 8 [] by decide), isW_x h2 (show sB.getD 2 [] ≠ sB.getD 18 [] by decide)] at eM
    refine L_fin hT eX (Y := fX12_sayCave 5000 0 SM) (x3 := 0) ((eM.trans (zero 0)).trans ?_) ?_
    · unfold fX12_readLine_b97
      rw [if_neg (by decide)]
      rfl
    · rw [o0]
      exact L_cave (x := 0) (by omega) hd hU T F k0
  | false =>
    rw [if_neg (by rw [h2]; decide)] at eX
    cases h3 : isW B k s p 3 with
    | true =>
      rw [if_pos h3] at eX
      have low : ∀ j, j < 1 → isW B k s p (mS 0 j) = false := fun j hj => by
        obtain rfl : j = 0 := by omega
        exact h2
      have x2 : owV (fun i => isW B k s p (mS 0 i)) 2 = 1 := (owV_an (v := nI 1) (Or.inl ⟨1, by omega, h3, low, rfl⟩)).symm
      rw [x2, isW_x h3 (show sB.getD 3 [] ≠ sB.getD 6 [] by decide), isW_x h3 (show sB.getD 3 [] ≠ sB.getD 7 [] by decide), isW_x h3 (show sB.getD 3 [] ≠ sB.getD 8 [] by decide), isW_x h3 (show sB.getD 3 [] ≠ sB.getD 18 [] by decide)] at eM
      refine L_fin hT eX (Y := fX12_sayCave 5000 1 SM) (x3 := 0) ((eM.trans (zero 1)).trans ?_) ?_
      · unfold fX12_readLine_b97
        rw [if_neg (by decide)]
        rfl
      · rw [o0]
        exact L_cave (x := 1) (by omega) hd hU T F k0
    | false =>
      rw [if_neg (by rw [h3]; decide)] at eX
      have x2 : owV (fun i => isW B k s p (mS 0 i)) 2 = -1 := (owV_an (Or.inr ⟨fun j hj => by
        rcases (show j = 0 ∨ j = 1 by omega) with rfl | rfl
        · exact h2
        · exact h3, rfl⟩)).symm
      rw [x2] at eM
      have none' : ∀ w, isW B k s p 4 = w → fX12_readLine_b97 5000 (doneV nw b c1 c2) (-1) 0 SM = if iv w = 0 then fX12_readLine_b127 5000 (doneV nw b c1 c2) 0 SM else fX12_readLine_b120 5000 (doneV nw b c1 c2) 0 SM := by
        intro w hw
        unfold fX12_readLine_b97
        rw [if_pos rfl]
        unfold fX12_readLine_b110
        rw [bnd_t (show fX12_is 5000 43 SM = some (iv (isW B k s p 4), SM) from m_is (by decide) T F.2), hw]
      cases h4 : isW B k s p 4 with
      | true =>
        rw [if_pos h4] at eX
        rw [isW_x h4 (show sB.getD 4 [] ≠ sB.getD 6 [] by decide), isW_x h4 (show sB.getD 4 [] ≠ sB.getD 7 [] by decide), isW_x h4 (show sB.getD 4 [] ≠ sB.getD 8 [] by decide), isW_x h4 (show sB.getD 4 [] ≠ sB.getD 18 [] by decide)] at eM
        refine L_fin hT eX (Y := fX12_sayGuild 5000 SM) (x3 := 0) ((eM.trans (zero (-1))).trans (none' true h4)) ?_
        rw [o0]
        exact L_guild hd hU T F k0
      | false =>
        rw [if_neg (by rw [h4]; decide)] at eX
        cases h6 : isW B k s p 6 with
        | true =>
          rw [if_pos h6] at eX
          rw [if_pos h6] at eM
          by_cases q : nw = 0
          · subst q
            refine L_fin hT eX (x3 := 1) (eM.trans (once 1 (by decide) (n1.mpr rfl))) ?_
            rw [o1]
            exact L_wet hd hU T F k0
          · exact L_twice hT T F (by decide) (fun z => q (n1.mp z)) eX eM (fun S' a => (x_twice (r := 0) a).2.2 nw (by omega) (by have := hd.2.2.1.2.2.1; omega) (by rw [hU]; exact hd.2.2.1.1))
        | false =>
          rw [if_neg (by rw [h6]; decide)] at eX
          rw [if_neg (by rw [h6]; decide)] at eM
          cases h7 : isW B k s p 7 with
          | true =>
            rw [if_pos h7] at eX
            rw [if_pos h7] at eM
            by_cases q : b = 0
            · subst q
              refine L_fin hT eX (x3 := 2) (eM.trans (once 2 (by decide) (n2.mpr rfl))) ?_
              rw [o2]
              exact L_bound hd hU T F k0
            · exact L_twice hT T F (by decide) (fun z => q (n2.mp z)) eX eM (fun S' a => (x_twice (r := 0) a).2.1 b (by omega) (by have := hd.2.2.2.1.2.1; omega) (by rw [hU]; exact hd.2.2.2.1.1))
          | false =>
            rw [if_neg (by rw [h7]; decide)] at eX
            rw [if_neg (by rw [h7]; decide)] at eM
            cases h8 : isW B k s p 8 with
            | true =>
              rw [if_pos h8, hU] at eX
              rw [if_pos h8] at eM
              by_cases q : c1 = 0
              · subst q
                refine L_fin hT eX (x3 := 4) (eM.trans (once 4 (by decide) (n4.mpr rfl))) ?_
                rw [o4]
                exact L_prays hd hU T F k0
              · obtain ⟨⟨D, ⟨r1, -, r3, -⟩, -⟩, -⟩ := hd.2.2.2.2.1
                exact L_twice hT T F (by decide) (fun z => q (n4.mp z)) eX eM (fun S' a => (x_twice (r := U + 10) a).1 c1 (by omega) (by omega) r1)
            | false =>
              rw [if_neg (by rw [h8]; decide)] at eX
              rw [if_neg (by rw [h8]; decide)] at eM
              cases h9 : isW B k s p 18 with
              | true =>
                rw [if_pos h9, hU] at eX
                rw [if_pos h9] at eM
                by_cases q : c2 = 0
                · subst q
                  refine L_fin hT eX (x3 := 8) (eM.trans (once 8 (by decide) (n8.mpr rfl))) ?_
                  rw [o8]
                  exact L_costs hd hU T F k0
                · obtain ⟨⟨D, ⟨r1, -, r3, -⟩, -⟩, -⟩ := hd.2.2.2.2.2
                  exact L_twice hT T F (by decide) (fun z => q (n8.mp z)) eX eM (fun S' a => (x_twice (r := U + 13) a).1 c2 (by omega) (by omega) r1)
              | false =>
                rw [if_neg (by rw [h9]; decide)] at eX
                rw [if_neg (by rw [h9]; decide)] at eM
                obtain ⟨S1, SM1, a1, a2, a3, a4⟩ := j_refuse (q := 1) (G := False) (by decide) T F
                refine L_fin hT eX (Y := fX12_wrong 5000 1 SM) (x3 := 0) ((eM.trans (zero (-1))).trans (none' false h4)) ⟨S1, SM1, a1, a2, a4.lin a3⟩
end
end
