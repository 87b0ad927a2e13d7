/-! part 85.token -/
section
def byJ (B : Nat → Nat) (n : Nat) (S SM : gS) : Prop := n ≤ 700 ∧ ∀ i, i < n → B i < 256 ∧ (S 3 i &&& 255) = nI (B i) ∧ SM 19 i = nI (B i)
def tkX (n s p k : Nat) (S : gS) : Prop := S 2 2 = nI n ∧ S 2 3 = nI p ∧ S 2 5 = nI s ∧ S 2 4 = nI k
def tkM (n s p k : Nat) (S : gS) : Prop := S 99 22 = nI n ∧ S 99 21 = nI p ∧ S 99 26 = nI p ∧ S 99 25 = nI s ∧ S 99 23 = nI k
def tkK (n s p k : Nat) : Prop := s ≤ p ∧ p ≤ n ∧ k ≤ 4 ∧ (k = 0 → s = n) ∧ (k ≠ 0 → s < p)
def tkV (s p k : Nat) (S SM : gS) : Prop := k = 2 → (p - s ≤ 4 → ∃ v, v ≤ 9999 ∧ S 2 6 = nI v ∧ SM 99 24 = nI v) ∧ (4 < p - s → S 2 6 = nI 10000)
def tkJ (B : Nat → Nat) (n s p k : Nat) (S SM : gS) : Prop := byJ B n S SM ∧ tkX n s p k S ∧ tkM n s p k SM ∧ tkK n s p k ∧ tkV s p k S SM
noncomputable def isS (B : Nat → Nat) (k s : Nat) (x : Int32) : Bool := decide (k = 3) && decide (nI (B s) = x)
noncomputable def isWl (B : Nat → Nat) (k s p : Nat) (l : List Int32) : Bool := decide (k = 1) && (decide (p - s = l.length) && alB (fun i => decide (nI (B (s + i)) = l.getD i 0)) l.length)
noncomputable def isW (B : Nat → Nat) (k s p w : Nat) : Bool := isWl B k s p (sB.getD w [])
section
variable {B : Nat → Nat} {n s p k N : Nat} {S SM : gS}
theorem x_isAtSign {x : Int32} (T : tkJ B n s p k S SM) : fX8_isAtSign N x S = some (iv (isS B k s x), S) := by
  obtain ⟨⟨b1, b2⟩, ⟨t1, t2, t3, t4⟩, -, ⟨c1, c2, c3, c4, c5⟩, -⟩ := T
  unfold fX8_isAtSign fX8_isAtSign_b0 isS
  rw [t4]
  by_cases q : k = 3
  · subst q
    have hs := c5 (by decide)
    rw [if_pos (by decide)]
    unfold fX8_isAtSign_b8
    rw [t3, bnd_t (x_at (by omega)), (b2 s (by omega)).2.1]
    by_cases q2 : nI (B s) = x
    · rw [if_pos q2, decide_eq_true q2]; rfl
    · rw [if_neg q2, decide_eq_false q2]; rfl
  · rw [if_neg (show ¬ nI k = 3 from fun z => q ((nI_eq (b := 3) (by omega) (by omega)).mp z)), decide_eq_false q]
    rfl
theorem m_isMarked {x : Int32} (T : tkJ B n s p k S SM) (h0 : SM 99 27 = 0) : fX12_isMarked N x SM = some (iv (isS B k s x), SM) := by
  obtain ⟨⟨b1, b2⟩, -, ⟨t1, t2, t3, t4, t5⟩, ⟨c1, c2, c3, c4, c5⟩, -⟩ := T
  unfold fX12_isMarked fX12_isMarked_b0 isS
  rw [h0, if_pos rfl]
  unfold fX12_isMarked_b7
  rw [t5]
  by_cases q : k = 3
  · subst q
    have hs := c5 (by decide)
    rw [if_pos (by decide)]
    unfold fX12_isMarked_b15
    rw [t4, chk_t (inb_t (by omega) (by decide)), nI_clamp (by omega), (b2 s (by omega)).2.2]
    by_cases q2 : nI (B s) = x
    · rw [if_pos q2, decide_eq_true q2]; rfl
    · rw [if_neg q2, decide_eq_false q2]; rfl
  · rw [if_neg (show ¬ nI k = 3 from fun z => q ((nI_eq (b := 3) (by omega) (by omega)).mp z)), decide_eq_false q]
    rfl
theorem m_isMarked0 {x : Int32} (h0 : SM 99 27 ≠ 0) : fX12_isMarked N x SM = some (0, SM) := by
  unfold fX12_isMarked fX12_isMarked_b0
  rw [if_neg h0]
  rfl
theorem x_isAtWord {w : Nat} (hw : w < 45) (T : tkJ B n s p k S SM) : fX8_isAtWord 5000 w S = some (iv (isW B k s p w), S) := by
  obtain ⟨⟨b1, b2⟩, ⟨t1, t2, t3, t4⟩, -, ⟨c1, c2, c3, c4, c5⟩, -⟩ := T
  have l100 : sLen w < 100 := by
    have : ∀ w, w < 45 → sLen w < 100 := by decide
    exact this w hw
  unfold fX8_isAtWord fX8_isAtWord_b0 isW isWl
  rw [t4]
  by_cases q : k = 1
  · subst q
    rw [if_pos (by decide)]
    unfold fX8_isAtWord_b8
    rw [bnd_t (j_length hw), t2, t3, pk_sub c1]
    by_cases q2 : p - s = sLen w
    · have e : decide (p - s = (sB.getD w []).length) = true := decide_eq_true q2
      rw [e, q2, if_pos rfl]
      have main : Gv (fX8_isAtWord_h28 5000 5000 w 0 S) (fun r => r = (iv (alB (fun i => decide (nI (B (s + i)) = sByt w i)) (sLen w)), S)) := by
        refine loopG (A := Unit) (fun f i _ => fX8_isAtWord_h28 5000 f w (nI i) S) (fun i _ => alB (fun i => decide (nI (B (s + i)) = sByt w i)) i = true) _ (sLen w) ?_ ?_ (sLen w) 0 () 5000 (by omega) rfl (by omega)
        · rintro f a i1
          refine ⟨(1, S), ?_, by rw [i1]; rfl⟩
          show fX8_isAtWord_b28 5000 _ w (nI (sLen w)) S = _
          unfold fX8_isAtWord_b28
          rw [bnd_t (j_length hw), if_pos (nI_le (Nat.le_refl _) (by omega))]
          rfl
        · rintro f i a hi i1
          have hF : fX8_isAtWord_h28 5000 (f + 1) w (nI i) S = if nI (B (s + i)) = sByt w i then fX8_isAtWord_h28 5000 f w (nI (i + 1)) S else some (0, S) := by
            show fX8_isAtWord_b28 5000 (fX8_isAtWord_h28 5000 f) w (nI i) S = _
            unfold fX8_isAtWord_b28
            rw [bnd_t (j_length hw), if_neg (nI_ge hi (by omega))]
            unfold fX8_isAtWord_b36
            dsimp only
            rw [t3, nI_add, bnd_t (x_at (by omega)), bnd_t (j_charAt hw hi), (b2 (s + i) (by omega)).2.1]
            unfold fX8_isAtWord_b56
            rw [nI_1 i]
            rfl
          by_cases q3 : nI (B (s + i)) = sByt w i
          · refine Or.inr ⟨(), ?_, ?_⟩
            · show (alB _ i && decide _) = true
              rw [i1, decide_eq_true q3]
              rfl
            · show fX8_isAtWord_h28 5000 (f + 1) w (nI i) S = _
              rw [hF, if_pos q3]
          · refine Or.inl ⟨(0, S), ?_, ?_⟩
            · show fX8_isAtWord_h28 5000 (f + 1) w (nI i) S = _
              rw [hF, if_neg q3]
            · rw [alB_f hi (decide_eq_false q3)]
              rfl
      obtain ⟨r, r1, rfl⟩ := main
      exact r1
    · have e : decide (p - s = (sB.getD w []).length) = false := decide_eq_false q2
      rw [e, if_neg (fun z => q2 ((nI_eq (by omega) (by omega)).mp z))]
      rfl
  · rw [if_neg (show ¬ nI k = 1 from fun z => q ((nI_eq (b := 1) (by omega) (by omega)).mp z)), decide_eq_false q]
    rfl
theorem m_is {w : Nat} (hw : w < 45) (T : tkJ B n s p k S SM) (h0 : SM 99 27 = 0) : fX12_is 5000 w SM = some (iv (isW B k s p w), SM) := by
  obtain ⟨⟨b1, b2⟩, -, ⟨t1, t2, t3, t4, t5⟩, ⟨c1, c2, c3, c4, c5⟩, -⟩ := T
  have l100 : sLen w < 100 := by
    have : ∀ w, w < 45 → sLen w < 100 := by decide
    exact this w hw
  have z0 : fX12_is_b35 5000 w SM = some (0, SM) := rfl
  unfold fX12_is fX12_is_b0 isW isWl
  rw [h0, if_pos rfl]
  unfold fX12_is_b7
  rw [t5]
  by_cases q : k = 1
  · subst q
    rw [if_pos (by decide)]
    unfold fX12_is_b15
    rw [bnd_t (j_length hw)]
    have t34 : SM 99 26 - SM 99 25 = nI (p - s) := by rw [t3, t4, pk_sub c1]
    show (if nI (sLen w) = SM 99 26 - SM 99 25 then fX12_is_b31 5000 w SM else fX12_is_b35 5000 w SM) = _
    rw [t34]
    by_cases q2 : p - s = sLen w
    · have e : decide (p - s = (sB.getD w []).length) = true := decide_eq_true q2
      rw [e, q2, if_pos rfl]
      have main : Gv (fX12_is_h39 5000 5000 w 1 0 SM) (fun r => r = (iv (alB (fun i => decide (nI (B (s + i)) = sByt w i)) (sLen w)), SM)) := by
        refine loopG (A := Unit) (fun f i _ => fX12_is_h39 5000 f w (iv (alB (fun i => decide (nI (B (s + i)) = sByt w i)) i)) (nI i) SM) (fun i _ => True) _ (sLen w) ?_ ?_ (sLen w) 0 () 5000 (by omega) trivial (by omega)
        · rintro f a -
          refine ⟨_, ?_, rfl⟩
          show fX12_is_b39 5000 _ w _ (nI (sLen w)) SM = _
          unfold fX12_is_b39
          cases alB (fun i => decide (nI (B (s + i)) = sByt w i)) (sLen w) with
          | false => rfl
          | true =>
            show fX12_is_b43 5000 _ w (iv true) (nI (sLen w)) SM = _
            unfold fX12_is_b43
            rw [bnd_t (j_length hw), if_pos (nI_le (Nat.le_refl _) (by omega))]
            rfl
        · rintro f i a hi -
          have hF : fX12_is_b43 5000 (fX12_is_h39 5000 f) w (iv true) (nI i) SM = fX12_is_h39 5000 f w (iv (decide (nI (B (s + i)) = sByt w i))) (nI (i + 1)) SM := by
            unfold fX12_is_b43
            rw [bnd_t (j_length hw), if_neg (nI_ge hi (by omega))]
            unfold fX12_is_b51
            dsimp only
            rw [bnd_t (j_charAt hw hi)]
            show chk (inb (SM 99 25 + nI i) 700) (if sByt w i = SM 19 (SM 99 25 + nI i).toNatClampNeg then fX12_is_b70 5000 (fX12_is_h39 5000 f) w (nI i) SM else fX12_is_b74 5000 (fX12_is_h39 5000 f) w (nI i) SM) = _
            rw [t4, nI_add, chk_t (inb_t (by omega) (by decide)), nI_clamp (by omega), (b2 (s + i) (by omega)).2.2]
            unfold fX12_is_b70 fX12_is_b74 fX12_is_b75
            rw [nI_1 i]
            by_cases q3 : nI (B (s + i)) = sByt w i
            · rw [if_pos q3.symm, decide_eq_true q3]; rfl
            · rw [if_neg (fun z => q3 z.symm), decide_eq_false q3]; rfl
          have eA : alB (fun i => decide (nI (B (s + i)) = sByt w i)) (i + 1) = (alB (fun i => decide (nI (B (s + i)) = sByt w i)) i && decide (nI (B (s + i)) = sByt w i)) := rfl
          cases hb : alB (fun i => decide (nI (B (s + i)) = sByt w i)) i with
          | false =>
            refine Or.inl ⟨(0, SM), ?_, ?_⟩
            · show fX12_is_h39 5000 (f + 1) w (iv false) (nI i) SM = _
              rfl
            · have : alB (fun i => decide (nI (B (s + i)) = sByt w i)) (sLen w) = false := by
                cases hc : alB (fun i => decide (nI (B (s + i)) = sByt w i)) (sLen w) with
                | false => rfl
                | true =>
                  have := (alB_t i).mpr (fun i' hi' => (alB_t (sLen w)).mp hc i' (by omega))
                  rw [hb] at this
                  cases this
              rw [this]
              rfl
          | true =>
            refine Or.inr ⟨(), trivial, ?_⟩
            show fX12_is_h39 5000 (f + 1) w (iv true) (nI i) SM = fX12_is_h39 5000 f w (iv (alB (fun i => decide (nI (B (s + i)) = sByt w i)) (i + 1))) (nI (i + 1)) SM
            rw [eA, hb, Bool.true_and]
            exact hF
      obtain ⟨r, r1, rfl⟩ := main
      exact r1
    · have e : decide (p - s = (sB.getD w []).length) = false := decide_eq_false q2
      rw [e, if_neg (fun z => q2 ((nI_eq (by omega) (by omega)).mp z).symm)]
      exact z0
  · rw [if_neg (show ¬ nI k = 1 from fun z => q ((nI_eq (b := 1) (by omega) (by omega)).mp z)), decide_eq_false q]
    exact z0
theorem m_is0 {w : Nat} (h0 : SM 99 27 ≠ 0) : fX12_is 5000 w SM = some (0, SM) := by
  unfold fX12_is fX12_is_b0
  rw [if_neg h0]
  rfl
end
end
