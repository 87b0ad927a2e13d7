/-! part 85.token -/
section
def byJ (B : Nat → Nat) (n : Nat) (S SM : gS) : Prop := n ≤ 700 ∧ ∀ i, i < n → B i < 256 ∧ (S 3 i &&& 255) = nI (B i) ∧ SM 19 i = nI (B i)
def tkX (n s p k : Nat) (S : gS) : Prop := S 2 2 = nI n ∧ S 2 3 = nI p ∧ S 2 5 = nI s ∧ S 2 4 = nI k
def tkM (n s p k : Nat) (S : gS) : Prop := S 99 22 = nI n ∧ S 99 21 = nI p ∧ S 99 26 = nI p ∧ S 99 25 = nI s ∧ S 99 23 = nI k
def tkK (n s p k : Nat) : Prop := s ≤ p ∧ p ≤ n ∧ k ≤ 4 ∧ (k = 0 → s = n) ∧ (k ≠ 0 → s < p)
def tkV (s p k : Nat) (S SM : gS) : Prop := k = 2 → (p - s ≤ 4 → ∃ v, v ≤ 9999 ∧ S 2 6 = nI v ∧ SM 99 24 = nI v) ∧ (4 < p - s → S 2 6 = nI 10000)
def tkJ (B : Nat → Nat) (n s p k : Nat) (S SM : gS) : Prop := byJ B n S SM ∧ tkX n s p k S ∧ tkM n s p k SM ∧ tkK n s p k ∧ tkV s p k S SM
noncomputable def isS (B : Nat → Nat) (k s : Nat) (x : Int32) : Bool := decide (k = 3) && decide (nI (B s) = x)
noncomputable def isWl (B : Nat → Nat) (k s p : Nat) (l : List Int32) : Bool := decide (k = 1) && (decide (p - s = l.length) && alB (fun i => decide (nI (B (s + i)) = l.getD i 0)) l.length)
noncomputable def isW (B : Nat → Nat) (k s p w : Nat) : Bool := isWl B k s p (sB.getD w [])
section
variable {B : Nat → Nat} {n s p k N : Nat} {S SM : gS}
theorem x_isAtSign {x : Int32} (T : tkJ B n s p k S SM) : fX8_isAtSign N x S = some (iv (isS B k s x), S) := by
  obtain ⟨⟨b1, b2⟩, ⟨t1, t2, t3, t4⟩, -, ⟨c1, c2, c3, c4, c5⟩, -⟩ := T
  unfold fX8_isAtSign fX8_isAtSign_b0 isS
  rw [t4]
  by_cases q : k = 3
  · subst q
    have hs := c5 (by decide)
    rw [if_pos (by decide)]
    unfold fX8_isAtSign_b8
    rw [t3, bnd_t (x_at (by omega)), (b2 s (by omega)).2.1]
    by_cases q2 : nI (B s) = x
    · rw [if_pos q2, decide_eq_true q2]; rfl
    · rw [if_neg q2, decide_eq_false q2]; rfl
  · rw [if_neg (show ¬ nI k = 3 from fun z => q ((nI_eq (b := 3) (by omega) (by omega)).mp z)), decide_eq_false q]
    rfl
theorem m_isMarked {x : Int32} (T : tkJ B n s p k S SM) (h0 : SM 99 27 = 0) : fX12_isMarked N x SM = some (iv (isS B k s x), SM) := by
  obtain ⟨⟨b1, b2⟩, -, ⟨t1, t2, t3, t4, t5⟩, ⟨c1, c2, c3, c4, c5⟩, -⟩ := T
  unfold fX12_isMarked fX12_isMarked_b0 isS
  rw [h0, if_pos rfl]
  unfold fX12_isMarked_b7
  rw [t5]
  by_cases q : k = 3
  · subst q
    have hs := c5 (by decide)
    rw [if_pos (by decide)]
    unfold fX12_isMarked_b15
    rw [t4, chk_t (inb_t (by omega) (by decide)), nI_clamp (by omega), (b2 s (by omega)).2.2]
    by_cases q2 : nI (B s) = x
    · rw [if_pos q2, decide_eq_true q2]; rfl
    · rw [if_neg q2, decide_eq_false q2]; rfl
  · rw [if_neg (show ¬ nI k = 3 from fun z => q ((nI_eq (b := 3) (by omega) (by omega)).mp z)), decide_eq_false q]
    rfl
theorem m_isMarked0 {x : Int32} (h0 : SM 99 27 ≠ 0) : fX12_isMarked N x SM = some (0, SM) := by
  unfold fX12_isMarked fX12_isMarked_b0
  rw [if_neg h0]
  rfl
theorem x_isAtWord {w : Nat} (hw : w < 45) (T : tkJ B n s p k S SM) : fX8_isAtWord 5000 w S = some (iv (isW B k s p w), S) := by
  obtain ⟨⟨b1, b2⟩, ⟨t1, t2, t3, t4⟩, -, ⟨c1, c2, c3, c4, c5⟩, -⟩ := T
  have l100 : sLen w < 100 := by
    have : ∀ w, w < 45 → sLen w < 100 := by decide
    exact this w hw
  unfold fX8_isAtWord fX8_isAtWord_b0 isW isWl
  rw [t4]
  by_cases q : k = 1
  · subst q
    rw [if_pos (by decide)]
    unfold fX8_isAtWord_b8
    rw [bnd_t (j_length hw), t2, t3, pk_sub c1]
    by_cases q2 : p - s = sLen w
    · have e : decide (p - s = (sB.getD w []).length) = true := decide_eq_true q2
      rw [e, q2, if_pos rfl]
      have main : Gv (fX8_isAtWord_h28 5000 5000 w 0 S) (fun r => r = (iv (alB (fun i => decide (nI (B (s + i)) = sByt w i)) (sLen w)), S)) := by
        refine loopG (A := Unit) (fun f i _ => fX8_isAtWord_h28 5000 f w (nI i) S) (fun i _ => alB (fun i => decide (nI (B (s + i)) = sByt w i)) i = true) _ (sLen w) ?_ ?_ (sLen w) 0 () 5000 (by omega) rfl (by omega)
        · rintro f a i1
          refine ⟨(1, S), ?_, by rw [i1]; rfl⟩
          show fX8_isAtWord_b28 5000 _ w (nI (sLen w)) S = _
          unfold fX8_isAtWord_b28
          rw [bnd_t (j_length hw), if_pos (nI_le (Nat.le_refl _) (by omega))]
          rfl
        · rintro f i a hi i1
          have hF : fX8_isAtWord_h28 5000 (f + 1) w (nI i) S = if nI (B (s + i)) = sByt w i then fX8_isAtWord_h28 5000 f w (nI (i + 1)) S else some (0, S) := by
            show fX8_isAtWord_b28 5000 (fX8_isAtWord_h28 5000 f) w (nI i) S = _
            unfold fX8_isAtWord_b28
            rw [bnd_t (j_length hw), if_neg (nI_ge hi (by omega))]
            unfold fX8_isAtWord_b36
            dsimp only
            rw [t3, nI_add, bnd_t (x_at (by omega)), bnd_t (j_charAt hw hi), (b2 (s + i) (by omega)).2.1]
            unfold fX8_isAtWord_b56
            rw [nI_1 i]
            rfl
          by_cases q3 : nI (B (s + i)) = sByt w i
          · refine Or.inr ⟨(), ?_, ?_⟩
            · show (alB _ i && decide _) = true
              rw [i1, decide_eq_true q3]
              rfl
            · show fX8_isAtWord_h28 5000 (f + 1) w (nI i) S = _
              rw [hF, if_pos q3]
          · refine Or.inl ⟨(0, S), ?_, ?_⟩
            · show fX8_isAtWord_h28 5000 (f + 1) w (nI i) S = _
              rw [hF, if_neg q3]
            · rw [alB_f hi (decide_eq_false q3)]
              rfl
      obtain ⟨r, r1, rfl⟩ := main
      exact r1
    · have e : decide (p - s = (sB.getD w []).length) = false := decide_eq_false q2
      rw [e, if_neg (fun z => q2 ((nI_eq (by omega) (by omega)).mp z))]
      rfl
  · rw [if_neg (show ¬ nI k = 1 from fun z => q ((nI_eq (b := 1) (by omega) (by omega)).mp z)), decide_eq_false q]
    rfl
theorem m_is {w : Nat} (hw : w < 45) (T : tkJ B n s p k S SM) (h0 : SM 99 27 = 0) : fX12_is 5000 w SM = some (iv (isW B k s p w), SM) := by
  obtain ⟨⟨b1, b2⟩, -, ⟨t1, t2, t3, t4, t5⟩, ⟨c1, c2, c3, c4, c5⟩, -⟩ := T
  have l100 : sLen w < 100 := by
    have : ∀ w, w < 45 → sLen w < 100 := by decide
    exact this w hw
  have z0 : fX12_is_b35 5000 w SM = some (0, SM) := rfl
  unfold fX12_is fX12_is_b0 isW isWl
  rw [h0, if_pos rfl]
  unfold fX12_is_b7
  rw [t5]
  by_cases q : k = 1
  · subst q
    rw [if_pos (by decide)]
    unfold fX12_is_b15
    rw [bnd_t (j_length hw)]
    have t34 : SM 99 26 - SM 99 25 = nI (p - s) := by rw [t3, t4, pk_sub c1]
    show (if nI (sLen w) = SM 99 26 - SM 99 25 then fX12_is_b31 5000 w SM else fX12_is_b35 5000 w SM) = _
    rw [t34]
    by_cases q2 : p - s = sLen w
    · have e : decide (p - s = (sB.getD w []).length) = true := decide_eq_true q2
      rw [e, q2, if_pos rfl]
      have main : Gv (fX12_is_h39 5000 5000 w 1 0 SM) (fun r => r = (iv (alB (fun i => decide (nI (B (s + i)) = sByt w i)) (sLen w)), SM)) := by
        refine loopG (A := Unit) (fun f i _ => fX12_is_h39 5000 f w (iv (alB (fun i => decide (nI (B (s + i)) = sByt w i)) i)) (nI i) SM) (fun i _ => True) _ (sLen w) ?_ ?_ (sLen w) 0 () 5000 (by omega) trivial (by omega)
        · rintro f a -
          refine ⟨_, ?_, rfl⟩
          show fX12_is_b39 5000 _ w _ (nI (sLen w)) SM = _
          unfold fX12_is_b39
          cases alB (fun i => decide (nI (B (s + i)) = sByt w i)) (sLen w) with
          | false => rfl
          | true =>
            show fX12_is_b43 5000 _ w (iv true) (nI (sLen w)) SM = _
            unfold fX12_is_b43
            rw [bnd_t (j_length hw), if_pos (nI_le (Nat.le_refl _) (by omega))]
            rfl
        · rintro f i a hi -
          have hF : fX12_is_b43 5000 (fX12_is_h39 5000 f) w (iv true) (nI i) SM = fX12_is_h39 5000 f w (iv (decide (nI (B (s + i)) = sByt w i))) (nI (i + 1)) SM := by
            unfold fX12_is_b43
            rw [bnd_t (j_length hw), if_neg (nI_ge hi (by omega))]
            unfold fX12_is_b51
            dsimp only
            rw [bnd_t (j_charAt hw hi)]
            show chk (inb (SM 99 25 + nI i) 700) (if sByt w i = SM 19 (SM 99 25 + nI i).toNatClampNeg then fX12_is_b70 5000 (fX12_is_h39 5000 f) w (nI i) SM else fX12_is_b74 5000 (fX12_is_h39 5000 f) w (nI i) SM) = _
            rw [t4, nI_add, chk_t (inb_t (by omega) (by decide)), nI_clamp (by omega), (b2 (s + i) (by omega)).2.2]
            unfold fX12_is_b70 fX12_is_b74 fX12_is_b75
            rw [nI_1 i]
            by_cases q3 : nI (B (s + i)) = sByt w i
            · rw [if_pos q3.symm, decide_eq_true q3]; rfl
            · rw [if_neg (fun z => q3 z.symm), decide_eq_false q3]; rfl
          have eA : alB (fun i => decide (nI (B (s + i)) = sByt w i)) (i + 1) = (alB (fun i => decide (nI (B (s + i)) = sByt w i)) i && decide (nI (B (s + i)) = sByt w i)) := rfl
          cases hb : alB (fun i => decide (nI (B (s + i)) = sByt w i)) i with
          | false =>
            refine Or.inl ⟨(0, SM), ?_, ?_⟩
            · show fX12_is_h39 5000 (f + 1) w (iv false) (nI i) SM = _
              rfl
            · have : alB (fun i => decide (nI (B (s + i)) = sByt w i)) (sLen w) = false := by
                cases hc : alB (fun i => decide (nI (B (s + i)) = sByt w i)) (sLen w) with
                | false => rfl
                | true =>
                  have := (alB_t i).mpr (fun i' hi' => (alB_t (sLen w)).mp hc i' (by omega))
                  rw [hb] at this
                  cases this
              rw [this]
              rfl
          | true =>
            refine Or.inr ⟨(), trivial, ?_⟩
            show fX12_is_h39 5000 (f + 1) w (iv true) (nI i) SM = fX12_is_h39 5000 f w (iv (alB (fun i => decide (nI (B (s + i)) = sByt w i)) (i + 1))) (nI (i + 1)) SM
            rw [eA, hb, Bool.true_and]
            exact hF
      obtain ⟨r, r1, rfl⟩ := main
      exact r1
    · have e : decide (p - s = (sB.getD w []).length) = false := decide_eq_false q2
      rw [e, if_neg (fun z => q2 ((nI_eq (by omega) (by omega)).mp z).symm)]
      exact z0
  · rw [if_neg (show ¬ nI k = 1 from fun z => q ((nI_eq (b := 1) (by omega) (by omega)).mp z)), decide_eq_false q]
    exact z0
theorem m_is0 {w : Nat} (h0 : SM 99 27 ≠ 0) : fX12_is 5000 w SM = some (0, SM) := by
  unfold fX12_is fX12_is_b0
  rw [if_neg h0]
  rfl
end
end

/-! part 86.advance -/
section
noncomputable def ruP (c : Nat → Bool) : Nat → Nat → Nat
  | 0, q => q
  | m + 1, q => if c q = true then ruP c m (q + 1) else q
theorem ruP_le {c : Nat → Bool} : ∀ m q, q ≤ ruP c m q ∧ ruP c m q ≤ q + m := by
  intro m
  induction m with
  | zero => intro q; exact ⟨Nat.le_refl _, Nat.le_refl _⟩
  | succ m ih =>
    intro q
    show q ≤ (if c q = true then ruP c m (q + 1) else q) ∧ (if c q = true then ruP c m (q + 1) else q) ≤ q + (m + 1)
    by_cases h : c q = true
    · rw [if_pos h]
      have := ih (q + 1)
      omega
    · rw [if_neg h]
      omega
theorem ruP_t {c : Nat → Bool} {m q : Nat} (h : c q = true) : ruP c (m + 1) q = ruP c m (q + 1) := if_pos h
theorem ruP_f {c : Nat → Bool} {m q : Nat} (h : c q = false) : ruP c m q = q := by
  cases m with
  | zero => rfl
  | succ m => exact if_neg (by rw [h]; decide)
theorem ruP_st {c : Nat → Bool} : ∀ m q, ruP c m q < q + m → c (ruP c m q) = false := by
  intro m
  induction m with
  | zero => intro q h; exact absurd h (by show ¬ q < q + 0; omega)
  | succ m ih =>
    intro q h
    cases hc : c q with
    | true =>
      rw [ruP_t hc] at h ⊢
      exact ih (q + 1) (by omega)
    | false =>
      rw [ruP_f hc]
      exact hc
noncomputable def nuN (B : Nat → Nat) (s : Nat) : Nat → Nat
  | 0 => 0
  | i + 1 => nuN B s i * 10 + (B (s + i) - 48)
theorem kd2 : ∀ b, b < 256 → kd b = 2 → 48 ≤ b ∧ b ≤ 57 := by decide +kernel
theorem nuN_lt {B : Nat → Nat} {s : Nat} : ∀ i, (∀ j, j < i → 48 ≤ B (s + j) ∧ B (s + j) ≤ 57) → nuN B s i < 10 ^ i := by
  intro i
  induction i with
  | zero => intro _; exact (by decide : 0 < 10 ^ 0)
  | succ i ih =>
    intro h
    have h1 := ih (fun j hj => h j (by omega))
    have h2 := h i (by omega)
    show nuN B s i * 10 + (B (s + i) - 48) < 10 ^ (i + 1)
    rw [Nat.pow_succ]
    omega
noncomputable def kdB (B : Nat → Nat) (k q : Nat) : Bool := decide (kd (B q) = k)
def byX (B : Nat → Nat) (n : Nat) (S : gS) : Prop := n ≤ 700 ∧ ∀ i, i < n → B i < 256 ∧ (S 3 i &&& 255) = nI (B i)
def byM (B : Nat → Nat) (n : Nat) (SM : gS) : Prop := n ≤ 700 ∧ ∀ i, i < n → B i < 256 ∧ SM 19 i = nI (B i)
noncomputable def xTk (i j : Nat) : Bool := i == 2 && (3 ≤ j && j ≤ 6)
noncomputable def mTk (i j : Nat) : Bool := i == 99 && (j == 21 || (23 ≤ j && j ≤ 26))
section
variable {B : Nat → Nat} {n s p k N : Nat} {S SM : gS}
theorem byX.on {S S' : gS} (b : byX B n S) (s : oSame xTk S S') : byX B n S' := ⟨b.1, fun i hi => ⟨(b.2 i hi).1, by rw [s 3 i rfl]; exact (b.2 i hi).2⟩⟩
theorem byM.on {S S' : gS} (b : byM B n S) (s : oSame mTk S S') : byM B n S' := ⟨b.1, fun i hi => ⟨(b.2 i hi).1, by rw [s 19 i rfl]; exact (b.2 i hi).2⟩⟩
theorem x_adv0 : ∀ (m p f : Nat) (S : gS), p + m = n → m < f → byX B n S → S 2 2 = nI n → S 2 3 = nI p → ∃ S', fX8_advance_h0 5000 f S = fX8_advance_b39 5000 S' ∧ S' 2 2 = nI n ∧ S' 2 3 = nI (ruP (kdB B 5) m p) ∧ oSame xTk S S' := by
  intro m
  induction m with
  | zero =>
    intro p f S hp hf b h2 h3
    obtain ⟨f, rfl⟩ : ∃ f', f = f' + 1 := ⟨f - 1, by omega⟩
    refine ⟨S, ?_, h2, h3, oSame.rf⟩
    show fX8_advance_b0 5000 _ S = _
    unfold fX8_advance_b0
    have := b.1
    rw [h2, h3, if_pos (nI_le (by omega) (by omega))]
  | succ m ih =>
    intro p f S hp hf b h2 h3
    obtain ⟨f, rfl⟩ : ∃ f', f = f' + 1 := ⟨f - 1, by omega⟩
    have b7 := b.1
    obtain ⟨c1, c2⟩ := b.2 p (by omega)
    have hk := (kd_x (B p) c1).2.2.1
    have hF : fX8_advance_h0 5000 (f + 1) S = if nI (kd (B p)) = 5 then fX8_advance_h0 5000 f (sU S 2 3 (nI (p + 1))) else fX8_advance_b39 5000 S := by
      show fX8_advance_b0 5000 (fX8_advance_h0 5000 f) S = _
      unfold fX8_advance_b0
      rw [h2, h3, if_neg (nI_ge (by omega) (by omega))]
      unfold fX8_advance_b11
      rw [h3, bnd_t (x_at (by omega)), c2]
      dsimp only
      rw [bnd_t (x_kindOf c1 (by decide))]
      unfold fX8_advance_b26
      dsimp only [lt]
      rw [h3, nI_1 p]
    by_cases q : kd (B p) = 5
    · have qc : kdB B 5 p = true := decide_eq_true q
      rw [hF, q, if_pos (by decide), ruP_t qc]
      obtain ⟨S', e1, e2, e3, e4⟩ := ih (p + 1) f (sU S 2 3 (nI (p + 1))) (by omega) (by omega) (b.on (oSame.rf.up rfl)) (by rw [sU_n (by omega)]; exact h2) (by rw [sU_ap, if_pos ⟨rfl, rfl⟩])
      exact ⟨S', e1, e2, e3, (oSame.rf.up rfl).tr e4⟩
    · have qc : kdB B 5 p = false := decide_eq_false q
      rw [hF, ruP_f qc, if_neg (show ¬ nI (kd (B p)) = 5 from fun z => q ((nI_eq (b := 5) (by omega) (by omega)).mp z))]
      exact ⟨S, rfl, h2, h3, oSame.rf⟩
/-- the end of the class's step: the number of a long row -/
theorem x_adv190 (hs : s ≤ p) (hp : p ≤ 700) (h3 : S 2 3 = nI p) (h5 : S 2 5 = nI s) : ∃ S', fX8_advance_b190 5000 S = some (0, S') ∧ (p - s ≤ 4 → S' = S) ∧ (4 < p - s → S' 2 6 = nI 10000) ∧ (∀ i j, ¬ (i = 2 ∧ j = 6) → S' i j = S i j) := by
  unfold fX8_advance_b190
  have e : S 2 3 - S 2 5 = nI (p - s) := by rw [h3, h5, pk_sub hs]
  rw [e]
  by_cases q : p - s ≤ 4
  · rw [if_pos (show nI (p - s) ≤ 4 from nI_le (b := 4) q (by decide))]
    exact ⟨S, rfl, fun _ => rfl, fun z => absurd z (by omega), fun _ _ _ => rfl⟩
  · rw [if_neg (show ¬ nI (p - s) ≤ 4 from nI_ge (a := 4) (by omega) (by omega))]
    exact ⟨sU S 2 6 10000, rfl, fun z => absurd z q, fun _ => by rw [sU_ap, if_pos ⟨rfl, rfl⟩]; rfl, fun i j z => sU_n z⟩
/-- one byte of a token -/
theorem x_adv148 {r : Int32 → gS → Option (Int32 × gS)} {x : Int32} {q : Nat} (b : byX B n S) (hq : q < n) (h3 : S 2 3 = nI q) : ∃ S', fX8_advance_b148 5000 r x S = r x S' ∧ S' 2 3 = nI (q + 1) ∧ (∀ v, v ≤ 999 → S 2 6 = nI v → 48 ≤ B q → S' 2 6 = nI (v * 10 + (B q - 48))) ∧ (∀ i j, ¬ (i = 2 ∧ (j = 3 ∨ j = 6)) → S' i j = S i j) := by
  have b7 := b.1
  obtain ⟨c1, c2⟩ := b.2 q hq
  obtain ⟨V, hV⟩ : ∃ z : Int32, z = (((if S 2 6 < 9999 then S 2 6 else 9999) * 10) + nI (B q)) - 48 := ⟨_, rfl⟩
  have e3 : sU S 2 6 V 2 3 = nI q := by rw [sU_n (by omega)]; exact h3
  refine ⟨sU (sU S 2 6 V) 2 3 (nI (q + 1)), ?_, ?_, ?_, ?_⟩
  · unfold fX8_advance_b148
    rw [h3, bnd_t (x_at (by omega)), c2]
    dsimp only [lt]
    rw [← hV, e3, nI_1 q]
  · rw [sU_ap, if_pos ⟨rfl, rfl⟩]
  · intro v hv h6 hb
    rw [sU_ap, if_neg (by omega), sU_ap, if_pos ⟨rfl, rfl⟩, hV, h6, if_pos (show nI v < 9999 from nI_lt (b := 9999) (by omega) (by decide)), show (10 : Int32) = nI 10 from rfl, pk_mul, nI_add, show (48 : Int32) = nI 48 from rfl, pk_sub (by omega)]
    rw [show v * 10 + B q - 48 = v * 10 + (B q - 48) by omega]
  · intro i j z
    rw [sU_n (by omega), sU_n (by omega)]
/-- a row of letters, or of digits -/
theorem x_advrow (hk : k = 1 ∨ k = 2) : ∀ (m q f : Nat) (S : gS), q + m = n → m < f → s ≤ q → (q = s → q < n → kd (B s) = k) → (∀ i, s ≤ i → i < q → kd (B i) = k) → byX B n S → S 2 2 = nI n → S 2 3 = nI q → S 2 5 = nI s → S 2 4 = nI k → (k = 2 → q - s ≤ 4 → S 2 6 = nI (nuN B s (q - s))) → ∃ S', fX8_advance_h104 5000 f 1 S = fX8_advance_b190 5000 S' ∧ S' 2 3 = nI (ruP (kdB B k) m q) ∧ (k = 2 → ruP (kdB B k) m q - s ≤ 4 → S' 2 6 = nI (nuN B s (ruP (kdB B k) m q - s))) ∧ (∀ i, s ≤ i → i < ruP (kdB B k) m q → kd (B i) = k) ∧ (∀ i j, ¬ (i = 2 ∧ (j = 3 ∨ j = 6)) → S' i j = S i j) := by
  intro m
  induction m with
  | zero =>
    intro q f S hq hf hs h0 hall b h2 h3 h5 h4 h6
    obtain ⟨f, rfl⟩ : ∃ f', f = f' + 1 := ⟨f - 1, by omega⟩
    have b7 := b.1
    refine ⟨S, ?_, h3, h6, hall, fun _ _ _ => rfl⟩
    show fX8_advance_b104 5000 _ 1 S = _
    unfold fX8_advance_b104
    rw [h2, h3, if_pos (nI_le (by omega) (by omega))]
  | succ m ih =>
    intro q f S hq hf hs h0 hall b h2 h3 h5 h4 h6
    obtain ⟨f, rfl⟩ : ∃ f', f = f' + 1 := ⟨f - 1, by omega⟩
    have b7 := b.1
    obtain ⟨c1, c2⟩ := b.2 q (by omega)
    have k5 := (kd_x (B q) c1).2.2.1
    have hF : fX8_advance_h104 5000 (f + 1) 1 S = if kd (B q) = k then fX8_advance_b148 5000 (fX8_advance_h104 5000 f) 1 S else fX8_advance_b190 5000 S := by
      show fX8_advance_b104 5000 (fX8_advance_h104 5000 f) 1 S = _
      unfold fX8_advance_b104
      rw [h2, h3, if_neg (nI_ge (by omega) (by omega))]
      unfold fX8_advance_b115
      rw [h3, h5]
      by_cases e : q = s
      · rw [if_pos (by rw [e]), if_pos (by rw [e]; exact h0 e (by omega))]
      · rw [if_neg (fun z => e ((nI_eq (by omega) (by omega)).mp z))]
        show fX8_advance_b130 5000 (fX8_advance_h104 5000 f) 1 S = _
        unfold fX8_advance_b130
        rw [h3, bnd_t (x_at (by omega)), c2]
        dsimp only
        rw [bnd_t (x_kindOf c1 (by decide))]
        dsimp only
        simp only [h4]
        by_cases e2 : kd (B q) = k
        · rw [e2, if_pos rfl, if_pos rfl]
        · rw [if_neg e2, if_neg (fun z => e2 ((nI_eq (by omega) (by omega)).mp z))]
    rw [hF]
    by_cases e2 : kd (B q) = k
    · rw [if_pos e2, ruP_t (show kdB B k q = true from decide_eq_true e2)]
      obtain ⟨S1, a1, a2, a3, a4⟩ := x_adv148 (r := fX8_advance_h104 5000 f) (x := 1) b (by omega) h3
      have s1 : oSame xTk S S1 := fun i j z => a4 i j (fun w => by
        rcases w with ⟨w1, w2 | w2⟩ <;> rw [w1, w2] at z <;> cases z)
      obtain ⟨S', e1, e3, e4, e5, e6⟩ := ih (q + 1) f S1 (by omega) (by omega) (by omega) (fun z => absurd z (by omega)) (fun i y1 y2 => by
        by_cases z : i = q
        · rw [z]; exact e2
        · exact hall i y1 (by omega)) (b.on s1) (by rw [a4 2 2 (by omega)]; exact h2) a2 (by rw [a4 2 5 (by omega)]; exact h5) (by rw [a4 2 4 (by omega)]; exact h4) (fun z1 z2 => by
          have hd : ∀ j, j < q - s → 48 ≤ B (s + j) ∧ B (s + j) ≤ 57 := fun j hj => kd2 _ (b.2 _ (by omega)).1 (by rw [← z1]; exact hall _ (by omega) (by omega))
          have hl := nuN_lt (B := B) (s := s) (q - s) hd
          have hp : (10 : Nat) ^ (q - s) ≤ 10 ^ 3 := Nat.pow_le_pow_right (by decide) (by omega)
          have h48 := kd2 _ c1 (by rw [← z1]; exact e2)
          rw [a3 (nuN B s (q - s)) (by omega) (h6 z1 (by omega)) h48.1, show q + 1 - s = (q - s) + 1 by omega]
          show _ = nI (nuN B s (q - s) * 10 + (B (s + (q - s)) - 48))
          rw [show s + (q - s) = q by omega])
      refine ⟨S', a1.trans e1, e3, e4, e5, fun i j z => (e6 i j z).trans (a4 i j z)⟩
    · rw [if_neg e2, ruP_f (show kdB B k q = false from decide_eq_false e2)]
      exact ⟨S, rfl, h3, h6, hall, fun _ _ _ => rfl⟩
end
end

/-! part 87.advance -/
section
noncomputable def tSt (B : Nat → Nat) (n p : Nat) : Nat := ruP (kdB B 5) (n - p) p
noncomputable def tKd (B : Nat → Nat) (n s : Nat) : Nat := if s < n then kd (B s) else 0
noncomputable def tEnd (B : Nat → Nat) (n s : Nat) : Nat := if s < n then (if kd (B s) = 1 ∨ kd (B s) = 2 then ruP (kdB B (kd (B s))) (n - s) s else s + 1) else s
section
variable {B : Nat → Nat} {n s p k N : Nat} {S SM : gS}
theorem tK_ok (hB : ∀ i, i < n → B i < 256) (hp : p ≤ n) (hs : s = tSt B n p) : p ≤ s ∧ tkK n s (tEnd B n s) (tKd B n s) ∧ (tKd B n s = 2 → ∀ i, i < tEnd B n s - s → 48 ≤ B (s + i) ∧ B (s + i) ≤ 57) := by
  have h1 := ruP_le (c := kdB B 5) (n - p) p
  have hps : p ≤ s := by rw [hs]; exact h1.1
  have hsn : s ≤ n := by
    have : s ≤ p + (n - p) := by rw [hs]; exact h1.2
    omega
  refine ⟨hps, ?_⟩
  unfold tkK tEnd tKd
  by_cases q : s < n
  · rw [if_pos q, if_pos q]
    obtain ⟨-, -, k5, k1⟩ := kd_x (B s) (hB s q)
    have hne : ¬ kd (B s) = 5 := by
      have := ruP_st (c := kdB B 5) (n - p) p (by show ruP _ _ _ < _; rw [show ruP (kdB B 5) (n - p) p = s from hs.symm]; omega)
      rw [show ruP (kdB B 5) (n - p) p = s from hs.symm] at this
      exact of_decide_eq_false this
    by_cases r : kd (B s) = 1 ∨ kd (B s) = 2
    · rw [if_pos r]
      have h2 := ruP_le (c := kdB B (kd (B s))) (n - s) s
      have h3 : ruP (kdB B (kd (B s))) (n - s) s = ruP (kdB B (kd (B s))) (n - s - 1) (s + 1) := by
        rw [show n - s = (n - s - 1) + 1 by omega]
        exact ruP_t (decide_eq_true rfl)
      have h4 := ruP_le (c := kdB B (kd (B s))) (n - s - 1) (s + 1)
      refine ⟨⟨h2.1, by omega, by omega, fun z => absurd z (by omega), fun _ => by omega⟩, fun z i hi => ?_⟩
      have all : ∀ m q, ∀ i, q ≤ i → i < ruP (kdB B (kd (B s))) m q → kdB B (kd (B s)) i = true := by
        intro m
        induction m with
        | zero => intro q i a b; exact absurd b (by show ¬ i < q; omega)
        | succ m ih =>
          intro q i a b
          cases hc : kdB B (kd (B s)) q with
          | true =>
            by_cases e : i = q
            · rw [e]; exact hc
            · rw [ruP_t hc] at b
              exact ih (q + 1) i (by omega) b
          | false =>
            rw [ruP_f hc] at b
            exact absurd b (by omega)
      have := all (n - s) s (s + i) (by omega) (by omega)
      have e2 : kd (B (s + i)) = kd (B s) := of_decide_eq_true this
      rw [z] at e2
      exact kd2 _ (hB _ (by omega)) e2
    · rw [if_neg r]
      exact ⟨⟨by omega, by omega, by omega, fun z => absurd z (by omega), fun _ => by omega⟩, fun z => absurd (Or.inr z) r⟩
  · rw [if_neg q, if_neg q]
    exact ⟨⟨Nat.le_refl _, by omega, by decide, fun _ => by omega, fun z => absurd rfl z⟩, fun z => absurd z (by decide)⟩
theorem x_advance (b : byX B n S) (hp : p ≤ n) (h2 : S 2 2 = nI n) (h3 : S 2 3 = nI p) (hs : s = tSt B n p) : ∃ S', fX8_advance 5000 S = some (0, S') ∧ tkX n s (tEnd B n s) (tKd B n s) S' ∧ (tKd B n s = 2 → (tEnd B n s - s ≤ 4 → S' 2 6 = nI (nuN B s (tEnd B n s - s))) ∧ (4 < tEnd B n s - s → S' 2 6 = nI 10000)) ∧ oSame xTk S S' := by
  have b7 := b.1
  obtain ⟨t1, ⟨t2, t3, t4, t5, t6⟩, t7⟩ := tK_ok (fun i hi => (b.2 i hi).1) hp hs
  obtain ⟨S1, a1, a2, a3, a4⟩ := x_adv0 (n - p) p 5000 S (by omega) (by omega) b h2 h3
  have a3 : S1 2 3 = nI s := by rw [hs]; exact a3
  obtain ⟨S2, hS2⟩ : ∃ z, z = sU S1 2 5 (nI s) := ⟨_, rfl⟩
  obtain ⟨S3, hS3⟩ : ∃ z, z = sU (sU S2 2 4 (nI (tKd B n s))) 2 6 0 := ⟨_, rfl⟩
  have s2 : oSame xTk S S2 := by rw [hS2]; exact a4.up rfl
  have s3 : oSame xTk S S3 := by rw [hS3]; exact (s2.up rfl).up rfl
  have c2 : S3 2 2 = nI n := by rw [hS3, sU_n (by omega), sU_n (by omega), hS2, sU_n (by omega)]; exact a2
  have c3 : S3 2 3 = nI s := by rw [hS3, sU_n (by omega), sU_n (by omega), hS2, sU_n (by omega)]; exact a3
  have c5 : S3 2 5 = nI s := by rw [hS3, sU_n (by omega), sU_n (by omega), hS2, sU_ap, if_pos ⟨rfl, rfl⟩]
  have c4 : S3 2 4 = nI (tKd B n s) := by rw [hS3, sU_n (by omega), sU_ap, if_pos ⟨rfl, rfl⟩]
  have c6 : S3 2 6 = nI 0 := by rw [hS3, sU_ap, if_pos ⟨rfl, rfl⟩]; rfl
  have hb39 : fX8_advance 5000 S = fX8_advance_b74 5000 (nI (tKd B n s)) S2 := by
    unfold fX8_advance
    rw [a1]
    unfold fX8_advance_b39
    dsimp only [lt]
    rw [a3, ← hS2]
    have d2 : S2 2 2 = nI n := by rw [hS2, sU_n (by omega)]; exact a2
    have d3 : S2 2 3 = nI s := by rw [hS2, sU_n (by omega)]; exact a3
    rw [d2, d3]
    unfold tKd
    by_cases q : s < n
    · rw [if_neg (nI_ge q (by omega)), if_pos q]
      unfold fX8_advance_b59
      obtain ⟨y1, y2⟩ := (b.on s2).2 s q
      rw [d3, bnd_t (x_at (by omega)), y2]
      dsimp only
      rw [bnd_t (x_kindOf y1 (by decide))]
    · rw [if_pos (nI_le (by omega) (by omega)), if_neg q]
      rfl
  have h74 : fX8_advance 5000 S = fX8_advance_h104 5000 5000 (iv (decide (tKd B n s = 1 ∨ tKd B n s = 2))) S3 := by
    rw [hb39]
    unfold fX8_advance_b74
    dsimp only [lt]
    have d4 : sU S2 2 4 (nI (tKd B n s)) 2 4 = nI (tKd B n s) := by rw [sU_ap, if_pos ⟨rfl, rfl⟩]
    rw [d4]
    by_cases q1 : tKd B n s = 1
    · rw [if_pos (show nI (tKd B n s) = 1 by rw [q1]; rfl), decide_eq_true (Or.inl q1), hS3]
      rfl
    · rw [if_neg (show ¬ nI (tKd B n s) = 1 from fun z => q1 ((nI_eq (b := 1) (by omega) (by omega)).mp z))]
      unfold fX8_advance_b85
      rw [d4]
      by_cases q2 : tKd B n s = 2
      · rw [if_pos (show nI (tKd B n s) = 2 by rw [q2]; rfl), decide_eq_true (Or.inr q2), hS3]
        rfl
      · rw [if_neg (show ¬ nI (tKd B n s) = 2 from fun z => q2 ((nI_eq (b := 2) (by omega) (by omega)).mp z)), decide_eq_false (fun z => z.elim q1 q2), hS3]
        rfl
  have mid : ∃ S4, fX8_advance 5000 S = fX8_advance_b190 5000 S4 ∧ S4 2 3 = nI (tEnd B n s) ∧ (tKd B n s = 2 → tEnd B n s - s ≤ 4 → S4 2 6 = nI (nuN B s (tEnd B n s - s))) ∧ (∀ i j, ¬ (i = 2 ∧ (j = 3 ∨ j = 6)) → S4 i j = S3 i j) := by
    rw [h74]
    by_cases q : s < n
    · have ek : tKd B n s = kd (B s) := if_pos q
      have ee : tEnd B n s = if kd (B s) = 1 ∨ kd (B s) = 2 then ruP (kdB B (kd (B s))) (n - s) s else s + 1 := if_pos q
      by_cases r : kd (B s) = 1 ∨ kd (B s) = 2
      · rw [if_pos r] at ee
        rw [decide_eq_true (by rw [ek]; exact r)]
        obtain ⟨S4, e1, e2, e3, -, e5⟩ := x_advrow (B := B) (n := n) (s := s) (k := kd (B s)) r (n - s) s 5000 S3 (by omega) (by omega) (Nat.le_refl _) (fun _ _ => rfl) (fun i y1 y2 => absurd y1 (by omega)) (b.on s3) c2 c3 c5 (by rw [c4, ek]) (fun _ _ => by rw [c6, Nat.sub_self]; rfl)
        rw [← ee] at e2 e3
        exact ⟨S4, e1, e2, fun z => e3 (by rw [← ek]; exact z), e5⟩
      · rw [if_neg r] at ee
        rw [decide_eq_false (by rw [ek]; exact r), ee]
        obtain ⟨S4, e1, e2, -, e4⟩ := x_adv148 (r := fX8_advance_h104 5000 4999) (x := 0) (b.on s3) q c3
        refine ⟨S4, ?_, e2, fun z => absurd (Or.inr (by rw [← ek]; exact z)) r, e4⟩
        have f2 : S4 2 2 = nI n := by rw [e4 2 2 (by omega)]; exact c2
        have f5 : S4 2 5 = nI s := by rw [e4 2 5 (by omega)]; exact c5
        have l2 : fX8_advance_h104 5000 4999 0 S4 = fX8_advance_b190 5000 S4 := by
          show fX8_advance_b104 5000 (fX8_advance_h104 5000 4998) 0 S4 = _
          unfold fX8_advance_b104
          rw [f2, e2]
          by_cases z : s + 1 < n
          · rw [if_neg (nI_ge z (by omega))]
            unfold fX8_advance_b115
            rw [e2, f5, if_neg (fun w => absurd ((nI_eq (by omega) (by omega)).mp w) (by omega))]
            rfl
          · rw [if_pos (nI_le (by omega) (by omega))]
        rw [← l2, ← e1]
        show fX8_advance_b104 5000 (fX8_advance_h104 5000 4999) 0 S3 = _
        unfold fX8_advance_b104
        rw [c2, c3, if_neg (nI_ge q (by omega))]
        unfold fX8_advance_b115
        rw [c3, c5, if_pos rfl]
    · have ek : tKd B n s = 0 := if_neg q
      have ee : tEnd B n s = s := if_neg q
      rw [ek, ee]
      refine ⟨S3, ?_, c3, fun z => absurd z (by decide), fun _ _ _ => rfl⟩
      show fX8_advance_b104 5000 (fX8_advance_h104 5000 4999) _ S3 = _
      unfold fX8_advance_b104
      rw [c2, c3, if_pos (nI_le (by omega) (by omega))]
  obtain ⟨S4, d1, d2, d3, d4⟩ := mid
  obtain ⟨S5, g1, g2, g3, g4⟩ := x_adv190 (S := S4) (s := s) (p := tEnd B n s) t2 (by omega) d2 (by rw [d4 2 5 (by omega)]; exact c5)
  refine ⟨S5, d1.trans g1, ⟨?_, ?_, ?_, ?_⟩, fun z => ⟨fun y => ?_, g3⟩, fun i j z => ?_⟩
  · rw [g4 2 2 (by omega), d4 2 2 (by omega)]; exact c2
  · rw [g4 2 3 (by omega)]; exact d2
  · rw [g4 2 5 (by omega), d4 2 5 (by omega)]; exact c5
  · rw [g4 2 4 (by omega), d4 2 4 (by omega)]; exact c4
  · rw [g2 y]; exact d3 z y
  · have n1 : ¬ (i = 2 ∧ (j = 3 ∨ j = 6)) := by
      rintro ⟨w1, w2 | w2⟩ <;> rw [w1, w2] at z <;> cases z
    rw [g4 i j (by omega), d4 i j n1]
    exact s3 i j z
end
end

/-! part 88.stepon -/
section
theorem kd_m : ∀ b, b < 256 → ((nI b = 32 ∨ nI b = 10) ↔ kd b = 5) ∧ ((¬ nI b < 97 ∧ ¬ 122 < nI b) ↔ kd b = 1) ∧ ((¬ nI b < 48 ∧ ¬ 57 < nI b) ↔ kd b = 2) ∧ ((nI b = 59 ∨ nI b = 40 ∨ nI b = 41 ∨ nI b = 43 ∨ nI b = 45 ∨ nI b = 42 ∨ nI b = 47 ∨ nI b = 60 ∨ nI b = 61) ↔ kd b = 3) := by decide +kernel
section
variable {B : Nat → Nat} {n s p k N : Nat} {S SM : gS}
theorem m_byteAt {q : Nat} (b : byM B n S) (h2 : S 99 22 = nI n) (hq : q ≤ n) : fX12_byteAt N (nI q) S = some ((if q < n then nI (B q) else -1), S) := by
  have b7 := b.1
  unfold fX12_byteAt fX12_byteAt_b0
  rw [h2]
  by_cases z : q < n
  · rw [if_neg (nI_ge z (by omega)), if_pos z]
    unfold fX12_byteAt_b8
    rw [chk_t (inb_t (by omega) (by decide)), nI_clamp (by omega), (b.2 q z).2]
    rfl
  · rw [if_pos (nI_le (by omega) (by omega)), if_neg z]
    rfl
theorem m_isLetter {b : Nat} (hb : b < 256) : fX12_isLetter N (nI b) S = some (iv (decide (kd b = 1)), S) := by
  have h := (kd_m b hb).2.1
  unfold fX12_isLetter fX12_isLetter_b0
  by_cases h1 : nI b < 97
  · rw [if_pos h1, decide_eq_false (fun z => (h.mpr z).1 h1)]; rfl
  · rw [if_neg h1]
    unfold fX12_isLetter_b6
    by_cases h2 : 122 < nI b
    · rw [if_pos h2, decide_eq_false (fun z => (h.mpr z).2 h2)]; rfl
    · rw [if_neg h2, decide_eq_true (h.mp ⟨h1, h2⟩)]; rfl
theorem m_isDigit {b : Nat} (hb : b < 256) : fX12_isDigit N (nI b) S = some (iv (decide (kd b = 2)), S) := by
  have h := (kd_m b hb).2.2.1
  unfold fX12_isDigit fX12_isDigit_b0
  by_cases h1 : nI b < 48
  · rw [if_pos h1, decide_eq_false (fun z => (h.mpr z).1 h1)]; rfl
  · rw [if_neg h1]
    unfold fX12_isDigit_b6
    by_cases h2 : 57 < nI b
    · rw [if_pos h2, decide_eq_false (fun z => (h.mpr z).2 h2)]; rfl
    · rw [if_neg h2, decide_eq_true (h.mp ⟨h1, h2⟩)]; rfl
theorem m_isMark {b : Nat} (hb : b < 256) : fX12_isMark N (nI b) S = some (iv (decide (kd b = 3)), S) := by
  have h := (kd_m b hb).2.2.2
  unfold fX12_isMark fX12_isMark_b0
  by_cases h1 : nI b = 59
  · rw [if_pos h1, decide_eq_true (h.mp (Or.inl h1))]; rfl
  rw [if_neg h1]
  unfold fX12_isMark_b6
  by_cases h2 : nI b = 40
  · rw [if_pos h2, decide_eq_true (h.mp (by simp [h2]))]; rfl
  rw [if_neg h2]
  unfold fX12_isMark_b12
  by_cases h3 : nI b = 41
  · rw [if_pos h3, decide_eq_true (h.mp (by simp [h3]))]; rfl
  rw [if_neg h3]
  unfold fX12_isMark_b18
  by_cases h4 : nI b = 43
  · rw [if_pos h4, decide_eq_true (h.mp (by simp [h4]))]; rfl
  rw [if_neg h4]
  unfold fX12_isMark_b24
  by_cases h5 : nI b = 45
  · rw [if_pos h5, decide_eq_true (h.mp (by simp [h5]))]; rfl
  rw [if_neg h5]
  unfold fX12_isMark_b30
  by_cases h6 : nI b = 42
  · rw [if_pos h6, decide_eq_true (h.mp (by simp [h6]))]; rfl
  rw [if_neg h6]
  unfold fX12_isMark_b36
  by_cases h7 : nI b = 47
  · rw [if_pos h7, decide_eq_true (h.mp (by simp [h7]))]; rfl
  rw [if_neg h7]
  unfold fX12_isMark_b42
  by_cases h8 : nI b = 60
  · rw [if_pos h8, decide_eq_true (h.mp (by simp [h8]))]; rfl
  rw [if_neg h8]
  unfold fX12_isMark_b48
  by_cases h9 : nI b = 61
  · rw [if_pos h9, decide_eq_true (h.mp (by simp [h9]))]; rfl
  rw [if_neg h9, decide_eq_false (fun z => by
    have := h.mpr z
    simp only [h1, h2, h3, h4, h5, h6, h7, h8, h9, or_self] at this)]
  rfl
theorem m_st0 : ∀ (m p f : Nat) (S : gS), p + m = n → m < f → byM B n S → S 99 22 = nI n → S 99 21 = nI p → ∃ S', fX12_stepOn_h0 5000 f S = fX12_stepOn_b39 5000 S' ∧ S' 99 21 = nI (ruP (kdB B 5) m p) ∧ oSame mTk S S' := by
  intro m
  induction m with
  | zero =>
    intro p f S hp hf b h2 h3
    obtain ⟨f, rfl⟩ : ∃ f', f = f' + 1 := ⟨f - 1, by omega⟩
    refine ⟨S, ?_, h3, oSame.rf⟩
    show fX12_stepOn_b0 5000 _ S = _
    unfold fX12_stepOn_b0
    rw [h3, bnd_t (m_byteAt b h2 (by omega)), if_neg (show ¬ p < n by omega)]
    show fX12_stepOn_b13 5000 _ S = _
    unfold fX12_stepOn_b13
    rw [h3, bnd_t (m_byteAt b h2 (by omega)), if_neg (show ¬ p < n by omega)]
    rfl
  | succ m ih =>
    intro p f S hp hf b h2 h3
    obtain ⟨f, rfl⟩ : ∃ f', f = f' + 1 := ⟨f - 1, by omega⟩
    have b7 := b.1
    obtain ⟨c1, c2⟩ := b.2 p (by omega)
    have hk := (kd_m (B p) c1).1
    have hF : fX12_stepOn_h0 5000 (f + 1) S = if kd (B p) = 5 then fX12_stepOn_h0 5000 f (sU S 99 21 (nI (p + 1))) else fX12_stepOn_b39 5000 S := by
      have b26 : fX12_stepOn_b26 5000 (fX12_stepOn_h0 5000 f) S = fX12_stepOn_h0 5000 f (sU S 99 21 (nI (p + 1))) := by
        unfold fX12_stepOn_b26
        dsimp only [lt]
        rw [h3, nI_1 p]
      show fX12_stepOn_b0 5000 (fX12_stepOn_h0 5000 f) S = _
      unfold fX12_stepOn_b0
      rw [h3, bnd_t (m_byteAt b h2 (by omega)), if_pos (show p < n by omega)]
      dsimp only
      by_cases q1 : nI (B p) = 32
      · rw [if_pos q1, if_pos (hk.mp (Or.inl q1)), b26]
      · rw [if_neg q1]
        unfold fX12_stepOn_b13
        rw [h3, bnd_t (m_byteAt b h2 (by omega)), if_pos (show p < n by omega)]
        dsimp only
        by_cases q2 : nI (B p) = 10
        · rw [if_pos q2, if_pos (hk.mp (Or.inr q2)), b26]
        · rw [if_neg q2, if_neg (fun z => (hk.mpr z).elim q1 q2)]
    rw [hF]
    by_cases q : kd (B p) = 5
    · have qc : kdB B 5 p = true := decide_eq_true q
      rw [if_pos q, ruP_t qc]
      obtain ⟨S', e1, e3, e4⟩ := ih (p + 1) f (sU S 99 21 (nI (p + 1))) (by omega) (by omega) (b.on (oSame.rf.up rfl)) (by rw [sU_n (by omega)]; exact h2) (by rw [sU_ap, if_pos ⟨rfl, rfl⟩])
      exact ⟨S', e1, e3, (oSame.rf.up rfl).tr e4⟩
    · have qc : kdB B 5 p = false := decide_eq_false q
      rw [if_neg q, ruP_f qc]
      exact ⟨S, rfl, h3, oSame.rf⟩
theorem m_st76 : ∀ (m q f : Nat) (S : gS), q + m = n → m < f → byM B n S → S 99 22 = nI n → S 99 21 = nI q → ∃ S', fX12_stepOn_h76 5000 f S = fX12_stepOn_b103 5000 S' ∧ S' 99 21 = nI (ruP (kdB B 1) m q) ∧ (∀ i j, ¬ (i = 99 ∧ j = 21) → S' i j = S i j) := by
  intro m
  induction m with
  | zero =>
    intro q f S hp hf b h2 h3
    obtain ⟨f, rfl⟩ : ∃ f', f = f' + 1 := ⟨f - 1, by omega⟩
    refine ⟨S, ?_, h3, fun _ _ _ => rfl⟩
    show fX12_stepOn_b76 5000 _ S = _
    unfold fX12_stepOn_b76
    rw [h3, bnd_t (m_byteAt b h2 (by omega)), if_neg (show ¬ q < n by omega)]
    rfl
  | succ m ih =>
    intro q f S hp hf b h2 h3
    obtain ⟨f, rfl⟩ : ∃ f', f = f' + 1 := ⟨f - 1, by omega⟩
    obtain ⟨c1, c2⟩ := b.2 q (by omega)
    have hF : fX12_stepOn_h76 5000 (f + 1) S = if iv (decide (kd (B q) = 1)) = 0 then fX12_stepOn_b103 5000 S else fX12_stepOn_h76 5000 f (sU S 99 21 (nI (q + 1))) := by
      show fX12_stepOn_b76 5000 (fX12_stepOn_h76 5000 f) S = _
      unfold fX12_stepOn_b76
      rw [h3, bnd_t (m_byteAt b h2 (by omega)), if_pos (show q < n by omega)]
      dsimp only
      rw [bnd_t (m_isLetter c1)]
      unfold fX12_stepOn_b90
      dsimp only [lt]
      rw [h3, nI_1 q]
    rw [hF]
    by_cases z : kd (B q) = 1
    · rw [decide_eq_true z, ruP_t (show kdB B 1 q = true from decide_eq_true z)]
      obtain ⟨S', e1, e3, e4⟩ := ih (q + 1) f (sU S 99 21 (nI (q + 1))) (by omega) (by omega) (b.on (oSame.rf.up rfl)) (by rw [sU_n (by omega)]; exact h2) (by rw [sU_ap, if_pos ⟨rfl, rfl⟩])
      exact ⟨S', e1, e3, fun i j y => by rw [e4 i j y, sU_n y]⟩
    · rw [decide_eq_false z, ruP_f (show kdB B 1 q = false from decide_eq_false z)]
      exact ⟨S, rfl, h3, fun _ _ _ => rfl⟩
theorem m_st123 : ∀ (m q f : Nat) (S : gS), q + m = n → m < f → s ≤ q → (∀ i, s ≤ i → i < q → kd (B i) = 2) → byM B n S → S 99 22 = nI n → S 99 21 = nI q → (q - s ≤ 4 → S 99 24 = nI (nuN B s (q - s))) → ∃ S', fX12_stepOn_h123 5000 f S = fX12_stepOn_b178 5000 S' ∧ S' 99 21 = nI (ruP (kdB B 2) m q) ∧ (ruP (kdB B 2) m q - s ≤ 4 → S' 99 24 = nI (nuN B s (ruP (kdB B 2) m q - s))) ∧ (∀ i j, ¬ (i = 99 ∧ (j = 21 ∨ j = 24)) → S' i j = S i j) := by
  intro m
  induction m with
  | zero =>
    intro q f S hp hf hs hall b h2 h3 h4
    obtain ⟨f, rfl⟩ : ∃ f', f = f' + 1 := ⟨f - 1, by omega⟩
    refine ⟨S, ?_, h3, h4, fun _ _ _ => rfl⟩
    show fX12_stepOn_b123 5000 _ S = _
    unfold fX12_stepOn_b123
    rw [h3, bnd_t (m_byteAt b h2 (by omega)), if_neg (show ¬ q < n by omega)]
    rfl
  | succ m ih =>
    intro q f S hp hf hs hall b h2 h3 h4
    obtain ⟨f, rfl⟩ : ∃ f', f = f' + 1 := ⟨f - 1, by omega⟩
    obtain ⟨c1, c2⟩ := b.2 q (by omega)
    obtain ⟨V, hV⟩ : ∃ z : Int32, z = (if ((((10 * (S 99 24)) + nI (B q)) - 48)) < 100000 then (((10 * (S 99 24)) + nI (B q)) - 48) else 100000) := ⟨_, rfl⟩
    have hF : fX12_stepOn_h123 5000 (f + 1) S = if iv (decide (kd (B q) = 2)) = 0 then fX12_stepOn_b178 5000 S else fX12_stepOn_h123 5000 f (sU (sU S 99 24 V) 99 21 (nI (q + 1))) := by
      show fX12_stepOn_b123 5000 (fX12_stepOn_h123 5000 f) S = _
      unfold fX12_stepOn_b123
      rw [h3, bnd_t (m_byteAt b h2 (by omega)), if_pos (show q < n by omega)]
      dsimp only
      rw [bnd_t (m_isDigit c1)]
      unfold fX12_stepOn_b137
      dsimp only
      rw [h3, bnd_t (m_byteAt b h2 (by omega)), if_pos (show q < n by omega)]
      dsimp only [lt]
      rw [← hV, show sU S 99 24 V 99 21 = nI q by rw [sU_n (by omega)]; exact h3, nI_1 q]
    rw [hF]
    by_cases z : kd (B q) = 2
    · rw [decide_eq_true z, ruP_t (show kdB B 2 q = true from decide_eq_true z)]
      obtain ⟨S', e1, e3, e4, e5⟩ := ih (q + 1) f (sU (sU S 99 24 V) 99 21 (nI (q + 1))) (by omega) (by omega) (by omega) (fun i y1 y2 => by
        by_cases w : i = q
        · rw [w]; exact z
        · exact hall i y1 (by omega)) (b.on ((oSame.rf.up rfl).up rfl)) (by rw [sU_n (by omega), sU_n (by omega)]; exact h2) (by rw [sU_ap, if_pos ⟨rfl, rfl⟩]) (fun z2 => by
          have hd : ∀ j, j < q - s → 48 ≤ B (s + j) ∧ B (s + j) ≤ 57 := fun j hj => kd2 _ (b.2 _ (by omega)).1 (hall _ (by omega) (by omega))
          have hl := nuN_lt (B := B) (s := s) (q - s) hd
          have hp : (10 : Nat) ^ (q - s) ≤ 10 ^ 3 := Nat.pow_le_pow_right (by decide) (by omega)
          have h48 := kd2 _ c1 z
          have eV : ((10 * (S 99 24)) + nI (B q)) - 48 = nI (nuN B s (q - s) * 10 + (B q - 48)) := by
            rw [h4 (by omega), show (10 : Int32) = nI 10 from rfl, pk_mul, nI_add, show (48 : Int32) = nI 48 from rfl, pk_sub (by omega)]
            rw [show 10 * nuN B s (q - s) + B q - 48 = nuN B s (q - s) * 10 + (B q - 48) by omega]
          rw [sU_n (by omega), sU_ap, if_pos ⟨rfl, rfl⟩, hV, eV, if_pos (show nI (nuN B s (q - s) * 10 + (B q - 48)) < 100000 from nI_lt (b := 100000) (by omega) (by decide)), show q + 1 - s = (q - s) + 1 by omega]
          show _ = nI (nuN B s (q - s) * 10 + (B (s + (q - s)) - 48))
          rw [show s + (q - s) = q by omega])
      exact ⟨S', e1, e3, e4, fun i j y => by rw [e5 i j y, sU_n (by omega), sU_n (by omega)]⟩
    · rw [decide_eq_false z, ruP_f (show kdB B 2 q = false from decide_eq_false z)]
      exact ⟨S, rfl, h3, h4, fun _ _ _ => rfl⟩
end
end

/-! part 89.stepon -/
section
section
variable {B : Nat → Nat} {n s p k N : Nat} {S SM : gS}
theorem m_stepOn (b : byM B n S) (hp : p ≤ n) (h2 : S 99 22 = nI n) (h3 : S 99 21 = nI p) (hs : s = tSt B n p) : ∃ S', fX12_stepOn 5000 S = some (0, S') ∧ tkM n s (tEnd B n s) (tKd B n s) S' ∧ (tKd B n s = 2 → tEnd B n s - s ≤ 4 → S' 99 24 = nI (nuN B s (tEnd B n s - s))) ∧ oSame mTk S S' := by
  have b7 := b.1
  obtain ⟨t1, ⟨t2, t3, t4, t5, t6⟩, t7⟩ := tK_ok (fun i hi => (b.2 i hi).1) hp hs
  obtain ⟨S1, a1, a3, a4⟩ := m_st0 (n - p) p 5000 S (by omega) (by omega) b h2 h3
  have a3 : S1 99 21 = nI s := by rw [hs]; exact a3
  obtain ⟨S2, hS2⟩ : ∃ z, z = sU S1 99 25 (nI s) := ⟨_, rfl⟩
  have s2 : oSame mTk S S2 := by rw [hS2]; exact a4.up rfl
  have c2 : S2 99 22 = nI n := by rw [s2 99 22 rfl]; exact h2
  have c3 : S2 99 21 = nI s := by rw [hS2, sU_n (by omega)]; exact a3
  have c5 : S2 99 25 = nI s := by rw [hS2, sU_ap, if_pos ⟨rfl, rfl⟩]
  have b2 := b.on s2
  have hb : fX12_stepOn 5000 S = if (if s < n then nI (B s) else -1) = (-1) then fX12_stepOn_b61 5000 S2 else fX12_stepOn_b69 5000 (if s < n then nI (B s) else -1) S2 := by
    unfold fX12_stepOn
    rw [a1]
    unfold fX12_stepOn_b39
    dsimp only [lt]
    rw [a3, ← hS2, c3, bnd_t (m_byteAt b2 c2 (by omega))]
  -- the end of the step
  have fin : ∀ (S4 : gS), S4 99 21 = nI (tEnd B n s) → S4 99 22 = nI n → S4 99 25 = nI s → S4 99 23 = nI (tKd B n s) → (tKd B n s = 2 → tEnd B n s - s ≤ 4 → S4 99 24 = nI (nuN B s (tEnd B n s - s))) → oSame mTk S S4 → ∃ S', fX12_stepOn_b212 5000 S4 = some (0, S') ∧ tkM n s (tEnd B n s) (tKd B n s) S' ∧ (tKd B n s = 2 → tEnd B n s - s ≤ 4 → S' 99 24 = nI (nuN B s (tEnd B n s - s))) ∧ oSame mTk S S' := by
    intro S4 g1 g2 g3 g4 g5 g6
    refine ⟨sU S4 99 26 (nI (tEnd B n s)), ?_, ⟨?_, ?_, ?_, ?_, ?_⟩, fun z1 z2 => ?_, g6.up rfl⟩
    · unfold fX12_stepOn_b212
      dsimp only [lt]
      rw [g1]
    · rw [sU_n (by omega)]; exact g2
    · rw [sU_n (by omega)]; exact g1
    · rw [sU_ap, if_pos ⟨rfl, rfl⟩]
    · rw [sU_n (by omega)]; exact g3
    · rw [sU_n (by omega)]; exact g4
    · rw [sU_n (by omega)]; exact g5 z1 z2
  rw [hb]
  by_cases q : s < n
  · obtain ⟨y1, y2⟩ := b2.2 s q
    have ek : tKd B n s = kd (B s) := if_pos q
    have ee : tEnd B n s = if kd (B s) = 1 ∨ kd (B s) = 2 then ruP (kdB B (kd (B s))) (n - s) s else s + 1 := if_pos q
    rw [if_pos q, if_neg (nI_nem (by omega))]
    unfold fX12_stepOn_b69
    rw [bnd_t (m_isLetter y1)]
    by_cases k1 : kd (B s) = 1
    · rw [decide_eq_true k1]
      rw [if_pos (Or.inl k1), k1] at ee
      show ∃ S', fX12_stepOn_h76 5000 5000 S2 = _ ∧ _
      obtain ⟨S3, e1, e2, e3⟩ := m_st76 (B := B) (n := n) (n - s) s 5000 S2 (by omega) (by omega) b2 c2 c3
      rw [← ee] at e2
      rw [e1]
      show ∃ S', fX12_stepOn_b212 5000 (sU S3 99 23 1) = _ ∧ _
      refine fin (sU S3 99 23 1) ?_ ?_ ?_ ?_ ?_ ?_
      · rw [sU_n (by omega)]; exact e2
      · rw [sU_n (by omega), e3 99 22 (by omega)]; exact c2
      · rw [sU_n (by omega), e3 99 25 (by omega)]; exact c5
      · rw [sU_ap, if_pos ⟨rfl, rfl⟩, ek, k1]; rfl
      · intro z; rw [ek, k1] at z; cases z
      · refine oSame.up (fun i j z => ?_) rfl
        rw [e3 i j (fun w => by rw [w.1, w.2] at z; cases z)]
        exact s2 i j z
    · rw [decide_eq_false k1]
      show ∃ S', fX12_stepOn_b111 5000 (nI (B s)) S2 = _ ∧ _
      unfold fX12_stepOn_b111
      rw [bnd_t (m_isDigit y1)]
      by_cases k2 : kd (B s) = 2
      · rw [decide_eq_true k2]
        rw [if_pos (Or.inr k2), k2] at ee
        show ∃ S', fX12_stepOn_h123 5000 5000 (sU S2 99 24 0) = _ ∧ _
        obtain ⟨S3, e1, e2, e4, e3⟩ := m_st123 (B := B) (n := n) (s := s) (n - s) s 5000 (sU S2 99 24 0) (by omega) (by omega) (Nat.le_refl _) (fun i z1 z2 => absurd z1 (by omega)) (b2.on (oSame.rf.up rfl)) (by rw [sU_n (by omega)]; exact c2) (by rw [sU_n (by omega)]; exact c3) (fun _ => by rw [sU_ap, if_pos ⟨rfl, rfl⟩, Nat.sub_self]; rfl)
        rw [← ee] at e2 e4
        rw [e1]
        show ∃ S', fX12_stepOn_b212 5000 (sU S3 99 23 2) = _ ∧ _
        refine fin (sU S3 99 23 2) ?_ ?_ ?_ ?_ ?_ ?_
        · rw [sU_n (by omega)]; exact e2
        · rw [sU_n (by omega), e3 99 22 (by omega), sU_n (by omega)]; exact c2
        · rw [sU_n (by omega), e3 99 25 (by omega), sU_n (by omega)]; exact c5
        · rw [sU_ap, if_pos ⟨rfl, rfl⟩, ek, k2]; rfl
        · intro _ z; rw [sU_n (by omega)]; exact e4 z
        · refine oSame.up (fun i j z => ?_) rfl
          rw [e3 i j (fun w => by rcases w with ⟨w1, w2 | w2⟩ <;> rw [w1, w2] at z <;> cases z), sU_n (fun w => by rw [w.1, w.2] at z; cases z)]
          exact s2 i j z
      · rw [decide_eq_false k2]
        rw [if_neg (fun z => z.elim k1 k2)] at ee
        show ∃ S', fX12_stepOn_b186 5000 (nI (B s)) S2 = _ ∧ _
        unfold fX12_stepOn_b186
        dsimp only [lt]
        rw [c3, nI_1 s, bnd_t (m_isMark y1)]
        have hk34 : kd (B s) = 3 ∨ kd (B s) = 4 := by
          rw [ek] at t4
          have := (kd_x (B s) y1).2.2.2
          omega
        have bb : (if iv (decide (kd (B s) = 3)) = 0 then fX12_stepOn_b208 5000 (sU S2 99 21 (nI (s + 1))) else fX12_stepOn_b204 5000 (sU S2 99 21 (nI (s + 1)))) = fX12_stepOn_b212 5000 (sU (sU S2 99 21 (nI (s + 1))) 99 23 (nI (kd (B s)))) := by
          rcases hk34 with r | r <;> rw [r] <;> rfl
        dsimp only
        rw [bb]
        refine fin (sU (sU S2 99 21 (nI (s + 1))) 99 23 (nI (kd (B s)))) ?_ ?_ ?_ ?_ ?_ ?_
        · rw [sU_n (by omega), sU_ap, if_pos ⟨rfl, rfl⟩, ee]
        · rw [sU_n (by omega), sU_n (by omega)]; exact c2
        · rw [sU_n (by omega), sU_n (by omega)]; exact c5
        · rw [sU_ap, if_pos ⟨rfl, rfl⟩, ek]
        · intro z; rw [ek] at z; exact absurd z k2
        · exact (s2.up rfl).up rfl
  · have ek : tKd B n s = 0 := if_neg q
    have ee : tEnd B n s = s := if_neg q
    rw [if_neg q, if_pos rfl]
    show ∃ S', fX12_stepOn_b212 5000 (sU S2 99 23 0) = _ ∧ _
    refine fin (sU S2 99 23 0) ?_ ?_ ?_ ?_ ?_ ?_
    · rw [sU_n (by omega), ee]; exact c3
    · rw [sU_n (by omega)]; exact c2
    · rw [sU_n (by omega)]; exact c5
    · rw [sU_ap, if_pos ⟨rfl, rfl⟩, ek]; rfl
    · intro z; rw [ek] at z; cases z
    · exact s2.up rfl
/-- both sides take the next token -/
theorem j_step (b : byJ B n S SM) (hp : p ≤ n) (h2 : S 2 2 = nI n) (h3 : S 2 3 = nI p) (m2 : SM 99 22 = nI n) (m3 : SM 99 21 = nI p) : ∃ S' SM' s' p' k', fX8_advance 5000 S = some (0, S') ∧ fX12_stepOn 5000 SM = some (0, SM') ∧ tkJ B n s' p' k' S' SM' ∧ p ≤ s' ∧ oSame xTk S S' ∧ oSame mTk SM SM' := by
  have bX : byX B n S := ⟨b.1, fun i hi => ⟨(b.2 i hi).1, (b.2 i hi).2.1⟩⟩
  have bM : byM B n SM := ⟨b.1, fun i hi => ⟨(b.2 i hi).1, (b.2 i hi).2.2⟩⟩
  obtain ⟨S', x1, x2, x3, x4⟩ := x_advance bX hp h2 h3 rfl
  obtain ⟨SM', y1, y2, y3, y4⟩ := m_stepOn bM hp m2 m3 rfl
  obtain ⟨t1, t2, t3⟩ := tK_ok (fun i hi => (b.2 i hi).1) hp (rfl : tSt B n p = tSt B n p)
  refine ⟨S', SM', _, _, _, x1, y1, ⟨⟨b.1, fun i hi => ⟨(b.2 i hi).1, by rw [x4 3 i rfl]; exact (b.2 i hi).2.1, by rw [y4 19 i rfl]; exact (b.2 i hi).2.2⟩⟩, x2, y2, t2, fun z => ⟨fun w => ⟨_, ?_, (x3 z).1 w, y3 z w⟩, (x3 z).2⟩⟩, t1, x4, y4⟩
  have hl := nuN_lt (B := B) (s := tSt B n p) (tEnd B n (tSt B n p) - tSt B n p) (t3 z)
  have hp4 : (10 : Nat) ^ (tEnd B n (tSt B n p) - tSt B n p) ≤ 10 ^ 4 := Nat.pow_le_pow_right (by decide) w
  omega
end
end

/-! part 90.parse -/
section
/-! the EXPRS: both sides lay the same, or meet the same FAULT -/
def flt (S SM : gS) : Prop := ∃ k : Nat, 1 ≤ k ∧ k ≤ 5 ∧ S 1 2 = nI k ∧ SM 99 27 = nI k ∧ S 1 3 = SM 99 28
def fine (S SM : gS) : Prop := (S 1 2 = 0 ∧ S 1 3 = -1) ∧ SM 99 27 = 0
def cOK (c : Nat → Int32) (i : Nat) : Prop := ((0 ≤ c i ∧ c i ≤ 10006) ∧ rDep c i < 31) ∨ (c i = 10010 ∧ 1 ≤ rDep c i) ∨ ((10011 ≤ c i ∧ c i ≤ 10018) ∧ 2 ≤ rDep c i)
/-- the rule: r the class's, w and sg the reference's; c codes laid, D values above each other -/
def rlJ (r w sg c D : Nat) (S SM : gS) : Prop := S r 3 = nI c ∧ SM 5 w = nI c ∧ c ≤ 700 ∧ (∀ i, i < c → SM sg (700 + i) = sgn (S (r + 1) i)) ∧ (∀ i, i < c → cOK (S (r + 1)) i) ∧ rDep (S (r + 1)) c = D
noncomputable def xEx (r i j : Nat) : Bool := xTk i j || (i == 1 && (j == 2 || j == 3)) || (i == r && j == 3) || i == r + 1
noncomputable def mEx (w sg i j : Nat) : Bool := mTk i j || (i == 99 && (j == 27 || j == 28)) || (i == 5 && j == w) || (i == sg && 700 ≤ j)
/-- which rule it is: the prays' or the costs' of the draft -/
def rlK (r w sg : Nat) (S SM : gS) : Prop := (r = 14 ∨ r = 17 ∨ r = 82 ∨ r = 85) ∧ ((w = 10 ∧ sg = 15 ∧ SM 99 31 = 0 ∧ SM 99 3 = 0 ∧ S r 2 = 0) ∨ (w = 11 ∧ sg = 16 ∧ SM 99 31 = 1 ∧ SM 99 3 = 1 ∧ S r 2 = 1))
theorem xEx_f {r i j : Nat} (h : xEx r i j = false) : xTk i j = false ∧ ¬ (i = 1 ∧ (j = 2 ∨ j = 3)) ∧ ¬ (i = r ∧ j = 3) ∧ i ≠ r + 1 := by
  unfold xEx at h
  simp only [Bool.or_eq_false_iff, Bool.and_eq_false_iff, beq_eq_false_iff_ne] at h
  obtain ⟨⟨⟨h1, h2⟩, h3⟩, h4⟩ := h
  exact ⟨h1, by omega, by omega, h4⟩
theorem mEx_f {w sg i j : Nat} (h : mEx w sg i j = false) : mTk i j = false ∧ ¬ (i = 99 ∧ (j = 27 ∨ j = 28)) ∧ ¬ (i = 5 ∧ j = w) ∧ ¬ (i = sg ∧ 700 ≤ j) := by
  unfold mEx at h
  simp only [Bool.or_eq_false_iff, Bool.and_eq_false_iff, beq_eq_false_iff_ne, decide_eq_false_iff_not] at h
  obtain ⟨⟨⟨h1, h2⟩, h3⟩, h4⟩ := h
  exact ⟨h1, by omega, by omega, by omega⟩
/-- behind a piece: what is left on both sides -/
def OUT (B : Nat → Nat) (n r w sg c D s : Nat) (S SM S' SM' : gS) : Prop := oSame (xEx r) S S' ∧ oSame (mEx w sg) SM SM' ∧ ∃ s' p' k' c', tkJ B n s' p' k' S' SM' ∧ c' ≤ 700 ∧ S' r 3 = nI c' ∧ ((fine S' SM' ∧ rlJ r w sg c' D S' SM' ∧ ∃ e, c' = c + e ∧ s + e ≤ s') ∨ flt S' SM')
def PP (B : Nat → Nat) (n r w sg c D s : Nat) (S SM : gS) (fx fm : Option (Int32 × gS)) : Prop := ∃ v S' v' SM', fx = some (v, S') ∧ fm = some (v', SM') ∧ OUT B n r w sg c D s S SM S' SM'
section
variable {B : Nat → Nat} {n s p k r w sg c D N : Nat} {S SM : gS}
theorem rlK.on {S' SM' : gS} (h : rlK r w sg S SM) (s1 : oSame (xEx r) S S') (s2 : oSame (mEx w sg) SM SM') : rlK r w sg S' SM' := by
  obtain ⟨h1, h2⟩ := h
  have e1 : S' r 2 = S r 2 := s1 r 2 (by rcases h1 with z | z | z | z <;> rw [z] <;> rfl)
  have e2 : SM' 99 31 = SM 99 31 := s2 99 31 (by rcases h2 with ⟨z1, z2, -⟩ | ⟨z1, z2, -⟩ <;> rw [z1, z2] <;> rfl)
  have e3 : SM' 99 3 = SM 99 3 := s2 99 3 (by rcases h2 with ⟨z1, z2, -⟩ | ⟨z1, z2, -⟩ <;> rw [z1, z2] <;> rfl)
  refine ⟨h1, ?_⟩
  rw [e1, e2, e3]
  exact h2
theorem xTk.ex {S S' : gS} (h : oSame xTk S S') : oSame (xEx r) S S' := fun i j z => h i j (xEx_f z).1
theorem mTk.ex {S S' : gS} (h : oSame mTk S S') : oSame (mEx w sg) S S' := fun i j z => h i j (mEx_f z).1
/-- the first FAULT -/
theorem j_wrong {q : Nat} (hq : 1 ≤ q ∧ q ≤ 5) (T : tkJ B n s p k S SM) (F : fine S SM) : ∃ S' SM', fX3_refuse 5000 (nI q) S = some (0, S') ∧ fX12_wrong 5000 (nI q) SM = some (0, SM') ∧ flt S' SM' ∧ tkJ B n s p k S' SM' ∧ (∀ i j, ¬ (i = 1 ∧ (j = 2 ∨ j = 3)) → S' i j = S i j) ∧ (∀ i j, ¬ (i = 99 ∧ (j = 27 ∨ j = 28)) → SM' i j = SM i j) := by
  obtain ⟨⟨b1, b2⟩, ⟨t1, t2, t3, t4⟩, ⟨u1, u2, u3, u4, u5⟩, c0, v0⟩ := T
  have kx : ∀ i j, ¬ (i = 1 ∧ (j = 2 ∨ j = 3)) → sU (sU S 1 2 (nI q)) 1 3 (nI s) i j = S i j := fun i j z => by rw [sU_n (by omega), sU_n (by omega)]
  have km : ∀ i j, ¬ (i = 99 ∧ (j = 27 ∨ j = 28)) → sU (sU SM 99 27 (nI q)) 99 28 (nI s) i j = SM i j := fun i j z => by rw [sU_n (by omega), sU_n (by omega)]
  refine ⟨sU (sU S 1 2 (nI q)) 1 3 (nI s), sU (sU SM 99 27 (nI q)) 99 28 (nI s), ?_, ?_, ⟨q, hq.1, hq.2, ?_, ?_, ?_⟩, ⟨⟨b1, fun i hi => ?_⟩, ⟨?_, ?_, ?_, ?_⟩, ⟨?_, ?_, ?_, ?_, ?_⟩, c0, fun z => ?_⟩, kx, km⟩
  · unfold fX3_refuse fX3_refuse_b0
    rw [bnd_t (show fX3_isFine 5000 S = some (1, S) by unfold fX3_isFine fX3_isFine_b0; rw [if_pos F.1.1]; rfl)]
    show fX3_refuse_b7 5000 (nI q) S = _
    unfold fX3_refuse_b7
    dsimp only [lt]
    rw [show sU S 1 2 (nI q) 2 5 = nI s by rw [sU_n (by omega)]; exact t3]
    rfl
  · unfold fX12_wrong fX12_wrong_b0
    rw [if_pos F.2]
    unfold fX12_wrong_b8
    dsimp only [lt]
    rw [show sU SM 99 27 (nI q) 99 25 = nI s by rw [sU_n (by omega)]; exact u4]
  · rw [sU_n (by omega), sU_ap, if_pos ⟨rfl, rfl⟩]
  · rw [sU_n (by omega), sU_ap, if_pos ⟨rfl, rfl⟩]
  · rw [sU_ap, if_pos ⟨rfl, rfl⟩, sU_ap, if_pos ⟨rfl, rfl⟩]
  · rw [kx 3 i (by omega), km 19 i (by omega)]; exact b2 i hi
  · rw [kx 2 2 (by omega)]; exact t1
  · rw [kx 2 3 (by omega)]; exact t2
  · rw [kx 2 5 (by omega)]; exact t3
  · rw [kx 2 4 (by omega)]; exact t4
  · rw [km 99 22 (by omega)]; exact u1
  · rw [km 99 21 (by omega)]; exact u2
  · rw [km 99 26 (by omega)]; exact u3
  · rw [km 99 25 (by omega)]; exact u4
  · rw [km 99 23 (by omega)]; exact u5
  · rw [kx 2 6 (by omega), km 99 24 (by omega)]; exact v0 z
theorem flt_x (h : flt S SM) : fX3_isFine N S = some (0, S) ∧ SM 99 27 ≠ 0 ∧ ∀ q, fX3_refuse N q S = some (0, S) := by
  obtain ⟨k, k1, k2, k3, k4, k5⟩ := h
  have hne : ¬ nI k = 0 := fun z => absurd ((nI_eq (b := 0) (by omega) (by omega)).mp z) (by omega)
  have h1 : fX3_isFine N S = some (0, S) := by
    unfold fX3_isFine fX3_isFine_b0
    rw [k3, if_neg hne]
    rfl
  refine ⟨h1, by rw [k4]; exact hne, fun q => ?_⟩
  unfold fX3_refuse fX3_refuse_b0
  rw [bnd_t h1]
  rfl
theorem fine_x (h : fine S SM) : fX3_isFine N S = some (1, S) := by
  unfold fX3_isFine fX3_isFine_b0
  rw [if_pos h.1.1]
  rfl
/-- a code too many, behind a FAULT: it changes nothing that is told -/
theorem x_add0 {x : Int32} (hc : c ≤ 700) (h : S r 3 = nI c) : ∃ S' c', fX4_add 5000 r x S = some (0, S') ∧ c' ≤ 700 ∧ S' r 3 = nI c' ∧ ∀ i j, ¬ (i = r ∧ j = 3) → i ≠ r + 1 → S' i j = S i j := by
  unfold fX4_add fX4_add_b0
  rw [h]
  by_cases z : c < 700
  · rw [if_neg (show ¬ (700 : Int32) ≤ nI c from nI_ge (b := 700) z (by decide))]
    refine ⟨sU (sU S (r + 1) c x) r 3 (nI (c + 1)), c + 1, ?_, by omega, by rw [sU_ap, if_pos ⟨rfl, rfl⟩], fun i j y1 y2 => by rw [sU_n y1, sU_ne y2]⟩
    unfold fX4_add_b12
    dsimp only [lt]
    rw [h, chk_t (inb_t z (by decide)), nI_clamp (by omega), sU_ne (show r ≠ r + 1 by omega), h, nI_1 c]
    rfl
  · rw [if_pos (show (700 : Int32) ≤ nI c from nI_le (a := 700) (by omega) (by omega))]
    exact ⟨S, c, rfl, hc, h, fun _ _ _ _ => rfl⟩
theorem rDep_eq {a b : Nat → Int32} : ∀ m, (∀ i, i < m → a i = b i) → rDep a m = rDep b m := by
  intro m
  induction m with
  | zero => intro _; rfl
  | succ m ih =>
    intro h
    have e := ih (fun i hi => h i (by omega))
    show (if a m < 10010 then rDep a m + 1 else if a m = 10010 then rDep a m else rDep a m - 1) = (if b m < 10010 then rDep b m + 1 else if b m = 10010 then rDep b m else rDep b m - 1)
    rw [e, h m (by omega)]
end
end

/-! part 91.parse -/
section
theorem tkJ.on {B : Nat → Nat} {n s p k : Nat} {S SM S' SM' : gS} (T : tkJ B n s p k S SM) (h2 : ∀ j, S' 2 j = S 2 j) (h3 : ∀ j, S' 3 j = S 3 j) (m9 : ∀ j, 21 ≤ j → j ≤ 26 → SM' 99 j = SM 99 j) (m1 : ∀ j, j < 700 → SM' 19 j = SM 19 j) : tkJ B n s p k S' SM' := by
  obtain ⟨⟨b1, b2⟩, ⟨t1, t2, t3, t4⟩, ⟨u1, u2, u3, u4, u5⟩, c0, v0⟩ := T
  refine ⟨⟨b1, fun i hi => ?_⟩, ⟨(h2 2).trans t1, (h2 3).trans t2, (h2 5).trans t3, (h2 4).trans t4⟩, ⟨(m9 22 (by decide) (by decide)).trans u1, (m9 21 (by decide) (by decide)).trans u2, (m9 26 (by decide) (by decide)).trans u3, (m9 25 (by decide) (by decide)).trans u4, (m9 23 (by decide) (by decide)).trans u5⟩, c0, fun z => ?_⟩
  · rw [h3 i, m1 i (by omega)]; exact b2 i hi
  · rw [h2 6, m9 24 (by decide) (by decide)]; exact v0 z
section
variable {B : Nat → Nat} {n s p k r w sg c D N : Nat} {S SM : gS}
theorem m_lay {x : Int32} (hK : rlK r w sg S SM) (h0 : SM 99 27 = 0) (hw : SM 5 w = nI c) (hc : c < 700) : fX12_lay 5000 x SM = some (0, sU (sU SM sg (700 + c) x) 5 w (nI (c + 1))) := by
  unfold fX12_lay fX12_lay_b0
  rw [if_pos h0]
  unfold fX12_lay_b8
  obtain ⟨-, ⟨rfl, rfl, a, -⟩ | ⟨rfl, rfl, a, -⟩⟩ := hK
  · rw [if_pos a]
    unfold fX12_lay_b21 fX12_lay_b22
    rw [if_pos a]
    unfold fX12_lay_b38 fX12_lay_b42
    dsimp only [lt]
    rw [show (6 : Int32) + 4 = nI 10 from rfl, nI_clamp (n := 10) (by decide), hw, show (700 : Int32) = nI 700 from rfl, nI_add, nI_clamp (n := 700 + c) (by omega), chk_t (inb_t (by decide) (by decide)), chk_t (inb_t (show 700 + c < mN 15 from (by have : mN 15 = 1400 := rfl; omega)) (by decide)), chk_t (inb_t (by decide) (by decide)), chk_t (inb_t (by decide) (by decide)), sU_ne (show 5 ≠ 15 by decide), hw, nI_1 c]
  · rw [if_neg (by rw [a]; decide)]
    unfold fX12_lay_b17 fX12_lay_b22
    rw [if_neg (by rw [a]; decide)]
    unfold fX12_lay_b31 fX12_lay_b42
    dsimp only [lt]
    rw [show (6 : Int32) + 5 = nI 11 from rfl, nI_clamp (n := 11) (by decide), hw, show (700 : Int32) = nI 700 from rfl, nI_add, nI_clamp (n := 700 + c) (by omega), chk_t (inb_t (by decide) (by decide)), chk_t (inb_t (show 700 + c < mN 16 from (by have : mN 16 = 1400 := rfl; omega)) (by decide)), chk_t (inb_t (by decide) (by decide)), chk_t (inb_t (by decide) (by decide)), sU_ne (show 5 ≠ 16 by decide), hw, nI_1 c]
theorem m_lay0 {x : Int32} (h0 : SM 99 27 ≠ 0) : fX12_lay 5000 x SM = some (0, SM) := by
  unfold fX12_lay fX12_lay_b0
  rw [if_neg h0]
  rfl
def okX (x : Int32) (D D' : Nat) : Prop := (((0 ≤ x ∧ x ≤ 10006) ∧ D < 31) ∨ (x = 10010 ∧ 1 ≤ D) ∨ ((10011 ≤ x ∧ x ≤ 10018) ∧ 2 ≤ D)) ∧ D' = (if x < 10010 then D + 1 else if x = 10010 then D else D - 1)
/-- both sides lay one more -/
theorem j_add {x : Int32} {D' : Nat} (T : tkJ B n s p k S SM) (F : fine S SM) (hK : rlK r w sg S SM) (R : rlJ r w sg c D S SM) (hc : c < 700) (hx : okX x D D') : ∃ S' SM', fX4_add 5000 r x S = some (0, S') ∧ fX12_lay 5000 (sgn x) SM = some (0, SM') ∧ tkJ B n s p k S' SM' ∧ fine S' SM' ∧ rlJ r w sg (c + 1) D' S' SM' ∧ oSame (xEx r) S S' ∧ oSame (mEx w sg) SM SM' := by
  obtain ⟨R1, R2, R3, R4, R5, R6⟩ := R
  have hr : r = 14 ∨ r = 17 ∨ r = 82 ∨ r = 85 := hK.1
  have hw : (w = 10 ∧ sg = 15) ∨ (w = 11 ∧ sg = 16) := by
    rcases hK.2 with ⟨a, b, -⟩ | ⟨a, b, -⟩
    · exact Or.inl ⟨a, b⟩
    · exact Or.inr ⟨a, b⟩
  obtain ⟨S', hS'⟩ : ∃ z, z = sU (sU S (r + 1) c x) r 3 (nI (c + 1)) := ⟨_, rfl⟩
  obtain ⟨SM', hSM'⟩ : ∃ z, z = sU (sU SM sg (700 + c) (sgn x)) 5 w (nI (c + 1)) := ⟨_, rfl⟩
  have kx : ∀ i j, ¬ (i = r ∧ j = 3) → ¬ (i = r + 1 ∧ j = c) → S' i j = S i j := fun i j a b => by rw [hS', sU_n a, sU_n b]
  have km : ∀ i j, ¬ (i = 5 ∧ j = w) → ¬ (i = sg ∧ j = 700 + c) → SM' i j = SM i j := fun i j a b => by rw [hSM', sU_n a, sU_n b]
  have eq : ∀ i, i < c → S' (r + 1) i = S (r + 1) i := fun i hi => kx _ _ (by omega) (by omega)
  have ec : S' (r + 1) c = x := by rw [hS', sU_n (by omega), sU_ap, if_pos ⟨rfl, rfl⟩]
  have dep : ∀ i, i ≤ c → rDep (S' (r + 1)) i = rDep (S (r + 1)) i := fun i hi => rDep_eq i (fun j hj => eq j (by omega))
  refine ⟨S', SM', ?_, ?_, ?_, ⟨?_, ?_⟩, ⟨?_, ?_, by omega, fun i hi => ?_, fun i hi => ?_, ?_⟩, fun i j z => ?_, fun i j z => ?_⟩
  · unfold fX4_add fX4_add_b0
    rw [R1, if_neg (show ¬ (700 : Int32) ≤ nI c from nI_ge (b := 700) hc (by decide))]
    unfold fX4_add_b12
    dsimp only [lt]
    rw [R1, chk_t (inb_t hc (by decide)), nI_clamp (by omega), sU_ne (show r ≠ r + 1 by omega), R1, nI_1 c, ← hS']
    rfl
  · rw [m_lay hK F.2 R2 hc, hSM']
  · refine T.on (fun j => kx 2 j (by omega) (by omega)) (fun j => kx 3 j (by omega) (by omega)) (fun j _ _ => km 99 j (by omega) (by omega)) (fun j _ => km 19 j (by omega) (by omega))
  · exact ⟨by rw [kx 1 2 (by omega) (by omega)]; exact F.1.1, by rw [kx 1 3 (by omega) (by omega)]; exact F.1.2⟩
  · rw [km 99 27 (by omega) (by omega)]; exact F.2
  · rw [hS', sU_ap, if_pos ⟨rfl, rfl⟩]
  · rw [hSM', sU_ap, if_pos ⟨rfl, rfl⟩]
  · by_cases e : i = c
    · rw [e, ec, hSM', sU_n (by omega), sU_ap, if_pos ⟨rfl, rfl⟩]
    · rw [km _ _ (by omega) (by omega), eq i (by omega)]
      exact R4 i (by omega)
  · unfold cOK
    by_cases e : i = c
    · rw [e, ec, dep c (Nat.le_refl _), R6]
      exact hx.1
    · rw [eq i (by omega), dep i (by omega)]
      exact R5 i (by omega)
  · show (if S' (r + 1) c < 10010 then rDep (S' (r + 1)) c + 1 else if S' (r + 1) c = 10010 then rDep (S' (r + 1)) c else rDep (S' (r + 1)) c - 1) = D'
    rw [ec, dep c (Nat.le_refl _), R6]
    exact hx.2.symm
  · obtain ⟨z1, z2, z3, z4⟩ := xEx_f z
    exact kx i j z3 (by omega)
  · obtain ⟨z1, z2, z3, z4⟩ := mEx_f z
    exact km i j z3 (by omega)
def OUT1 (B : Nat → Nat) (n r w sg c D s : Nat) (S SM S' SM' : gS) : Prop := oSame (xEx r) S S' ∧ oSame (mEx w sg) SM SM' ∧ ∃ s' p' k' c', tkJ B n s' p' k' S' SM' ∧ c' ≤ 700 ∧ S' r 3 = nI c' ∧ ((fine S' SM' ∧ rlJ r w sg c' D S' SM' ∧ ∃ e, 1 ≤ e ∧ c' = c + e ∧ s + e ≤ s') ∨ flt S' SM')
/-- a piece, and one more laid -/
theorem P_add {x : Int32} {D' s0 : Nat} {S1 SM1 : gS} (hK : rlK r w sg S SM) (h0 : s0 + 1 ≤ s) (hc : c + 1 ≤ s) (hx : okX x D D') (O : OUT B n r w sg c D s S SM S1 SM1) : ∃ S2 SM2, fX4_add 5000 r x S1 = some (0, S2) ∧ fX12_lay 5000 (sgn x) SM1 = some (0, SM2) ∧ OUT1 B n r w sg c D' s0 S SM S2 SM2 := by
  obtain ⟨o1, o2, s', p', k', c', T, c7, r3, h⟩ := O
  have hK1 := hK.on o1 o2
  have n7 := T.1.1
  have sn : s' ≤ n := by have := T.2.2.2.1; unfold tkK at this; omega
  rcases h with ⟨F, R, e, e1, e2⟩ | h
  · obtain ⟨S2, SM2, a1, a2, a3, a4, a5, a6, a7⟩ := j_add T F hK1 R (by omega) hx
    exact ⟨S2, SM2, a1, a2, o1.tr a6, o2.tr a7, s', p', k', c' + 1, a3, a5.2.2.1, a5.1, Or.inl ⟨a4, a5, e + 1, by omega, by omega, by omega⟩⟩
  · obtain ⟨S2, c2, a1, a2, a3, a4⟩ := x_add0 (x := x) c7 r3
    have hr : r = 14 ∨ r = 17 ∨ r = 82 ∨ r = 85 := hK.1
    refine ⟨S2, SM1, a1, m_lay0 (flt_x (N := 5000) h).2.1, o1.tr (fun i j z => ?_), o2, s', p', k', c2, T.on (fun j => a4 2 j (by omega) (by omega)) (fun j => a4 3 j (by omega) (by omega)) (fun _ _ _ => rfl) (fun _ _ => rfl), a2, a3, Or.inr ?_⟩
    · obtain ⟨z1, z2, z3, z4⟩ := xEx_f z
      exact a4 i j z3 z4
    · obtain ⟨q, q1, q2, q3, q4, q5⟩ := h
      exact ⟨q, q1, q2, by rw [a4 1 2 (by omega) (by omega)]; exact q3, q4, by rw [a4 1 3 (by omega) (by omega)]; exact q5⟩
def opLaw (B : Nat → Nat) (n r w sg d : Nat) (opX opM : gS → Option (Int32 × gS)) : Prop := ∀ S SM c s p k, tkJ B n s p k S SM → fine S SM → rlK r w sg S SM → rlJ r w sg c d S SM → c ≤ s → PP B n r w sg c (d + 1) s S SM (opX S) (opM SM)
def lpStep (B : Nat → Nat) (n r : Nat) (opX opM : gS → Option (Int32 × gS)) (HX : Nat → Int32 → gS → Option (Int32 × gS)) (HM : Nat → gS → Option (Int32 × gS)) : Prop := ∀ f f' i S SM s p k, tkJ B n s p k S SM → fine S SM → i ≤ s → (HX (f + 1) (nI i) S = some (0, S) ∧ HM (f' + 1) SM = some (0, SM)) ∨ ∃ x, (10011 ≤ x ∧ x ≤ 10018) ∧ k ≠ 0 ∧ HX (f + 1) (nI i) S = bnd (fX8_advance 5000 S) (fun q1 => bnd (opX q1.2) (fun q2 => bnd (fX4_add 5000 r x q2.2) (fun q3 => HX f (nI (i + 1)) q3.2))) ∧ HM (f' + 1) SM = bnd (fX12_stepOn 5000 SM) (fun q1 => bnd (opM q1.2) (fun q2 => bnd (fX12_lay 5000 (sgn x) q2.2) (fun q3 => HM f' q3.2)))
def lpFlt (HX : Nat → Int32 → gS → Option (Int32 × gS)) (HM : Nat → gS → Option (Int32 × gS)) : Prop := ∀ f f' i S SM, flt S SM → i ≤ 700 → HX (f + 1) (nI i) S = some (0, S) ∧ HM (f' + 1) SM = some (0, SM)
theorem okX_b {x : Int32} (h : 10011 ≤ x ∧ x ≤ 10018) (hD : 1 ≤ D) : okX x (D + 1) D := by
  refine ⟨Or.inr (Or.inr ⟨h, by omega⟩), ?_⟩
  have h1 : ¬ x < 10010 := fun z => absurd (Int32.lt_of_lt_of_le z (Int32.le_trans (by decide : (10010 : Int32) ≤ 10011) h.1)) Int32.lt_irrefl
  have h2 : ¬ x = 10010 := fun z => by rw [z] at h; exact absurd h.1 (by decide)
  rw [if_neg h1, if_neg h2]
  rfl
theorem loopP {opX opM : gS → Option (Int32 × gS)} {HX : Nat → Int32 → gS → Option (Int32 × gS)} {HM : Nat → gS → Option (Int32 × gS)} (op : opLaw B n r w sg D opX opM) (st : lpStep B n r opX opM HX HM) (sf : lpFlt HX HM) (hD : 1 ≤ D) : ∀ (m f f' i : Nat) (S SM : gS) (c s p k : Nat), n - s ≤ m → m < f → m < f' → tkJ B n s p k S SM → fine S SM → rlK r w sg S SM → rlJ r w sg c D S SM → c ≤ s → i ≤ s → PP B n r w sg c D s S SM (HX f (nI i) S) (HM f' SM) := by
  intro m
  induction m with
  | zero =>
    intro f f' i S SM c s p k hm hf hf' T F hK R hc hi
    obtain ⟨f, rfl⟩ : ∃ y, f = y + 1 := ⟨f - 1, by omega⟩
    obtain ⟨f', rfl⟩ : ∃ y, f' = y + 1 := ⟨f' - 1, by omega⟩
    have hk := T.2.2.2.1
    unfold tkK at hk
    rcases st f f' i S SM s p k T F hi with ⟨a, b⟩ | ⟨x, hx, k0, -, -⟩
    · exact ⟨0, S, 0, SM, a, b, oSame.rf, oSame.rf, s, p, k, c, T, R.2.2.1, R.1, Or.inl ⟨F, R, 0, rfl, Nat.le_refl _⟩⟩
    · have := hk.2.2.2.2 k0
      omega
  | succ m ih =>
    intro f f' i S SM c s p k hm hf hf' T F hK R hc hi
    obtain ⟨f, rfl⟩ : ∃ y, f = y + 1 := ⟨f - 1, by omega⟩
    obtain ⟨f', rfl⟩ : ∃ y, f' = y + 1 := ⟨f' - 1, by omega⟩
    have hk := T.2.2.2.1
    unfold tkK at hk
    rcases st f f' i S SM s p k T F hi with ⟨a, b⟩ | ⟨x, hx, k0, eX, eM⟩
    · exact ⟨0, S, 0, SM, a, b, oSame.rf, oSame.rf, s, p, k, c, T, R.2.2.1, R.1, Or.inl ⟨F, R, 0, rfl, Nat.le_refl _⟩⟩
    · have hsp := hk.2.2.2.2 k0
      obtain ⟨S1, SM1, s1, p1, k1, a1, a2, T1, a3, a4, a5⟩ := j_step T.1 hk.2.1 T.2.1.1 T.2.1.2.1 T.2.2.1.1 T.2.2.1.2.1
      have x4 := xTk.ex (r := r) a4
      have m5 := mTk.ex (w := w) (sg := sg) a5
      have hr : r = 14 ∨ r = 17 ∨ r = 82 ∨ r = 85 := hK.1
      have hw : (w = 10 ∧ sg = 15) ∨ (w = 11 ∧ sg = 16) := by
        rcases hK.2 with ⟨a, b, -⟩ | ⟨a, b, -⟩
        · exact Or.inl ⟨a, b⟩
        · exact Or.inr ⟨a, b⟩
      have F1 : fine S1 SM1 := ⟨⟨(a4 1 2 rfl).trans F.1.1, (a4 1 3 rfl).trans F.1.2⟩, (a5 99 27 rfl).trans F.2⟩
      have er : ∀ j, S1 r j = S r j := fun j => a4 r j (by rcases hr with z | z | z | z <;> rw [z] <;> rfl)
      have er1 : S1 (r + 1) = S (r + 1) := funext fun j => a4 (r + 1) j (by rcases hr with z | z | z | z <;> rw [z] <;> rfl)
      have R1 : rlJ r w sg c D S1 SM1 := by
        obtain ⟨R1, R2, R3, R4, R5, R6⟩ := R
        refine ⟨(er 3).trans R1, ?_, R3, fun i hi => ?_, by rw [er1]; exact R5, by rw [er1]; exact R6⟩
        · rw [a5 5 w rfl]; exact R2
        · rw [er1, a5 sg _ (by rcases hw with ⟨-, z⟩ | ⟨-, z⟩ <;> rw [z] <;> rfl)]; exact R4 i hi
      have hK1 := hK.on x4 m5
      obtain ⟨v, S2, v', SM2, b1, b2, O2⟩ := op S1 SM1 c s1 p1 k1 T1 F1 hK1 R1 (by omega)
      obtain ⟨S3, SM3, d1, d2, o1, o2, s3, p3, k3, c3, T3, c7, r3, h⟩ := P_add (x := x) (s0 := s) hK1 (by omega) (by omega) (okX_b hx hD) O2
      have ex : HX (f + 1) (nI i) S = HX f (nI (i + 1)) S3 := by
        rw [eX, bnd_t a1]
        dsimp only
        rw [bnd_t b1]
        dsimp only
        rw [bnd_t d1]
      have em : HM (f' + 1) SM = HM f' SM3 := by
        rw [eM, bnd_t a2]
        dsimp only
        rw [bnd_t b2]
        dsimp only
        rw [bnd_t d2]
      rw [ex, em]
      have hk3 := T3.2.2.2.1
      unfold tkK at hk3
      have n7 := T.1.1
      rcases h with ⟨F3, R3, e, e0, e1, e2⟩ | h
      · obtain ⟨v3, S4, v4, SM4, g1, g2, o3, o4, s4, p4, k4, c4, T4, c47, r4, h4⟩ := ih f f' (i + 1) S3 SM3 c3 s3 p3 k3 (by omega) (by omega) (by omega) T3 F3 (hK1.on o1 o2) R3 (by omega) (by omega)
        refine ⟨v3, S4, v4, SM4, g1, g2, (x4.tr o1).tr o3, (m5.tr o2).tr o4, s4, p4, k4, c4, T4, c47, r4, ?_⟩
        rcases h4 with ⟨F4, R4, e', e1', e2'⟩ | h4
        · exact Or.inl ⟨F4, R4, e + e', by omega, by omega⟩
        · exact Or.inr h4
      · obtain ⟨f, rfl⟩ : ∃ y, f = y + 1 := ⟨f - 1, by omega⟩
        obtain ⟨f', rfl⟩ : ∃ y, f' = y + 1 := ⟨f' - 1, by omega⟩
        obtain ⟨g1, g2⟩ := sf f f' (i + 1) S3 SM3 h (by omega)
        exact ⟨0, S3, 0, SM3, g1, g2, x4.tr o1, m5.tr o2, s3, p3, k3, c3, T3, c7, r3, Or.inr h⟩
/-- operands with operators between them -/
theorem binP {opX opM : gS → Option (Int32 × gS)} {HX : Nat → Int32 → gS → Option (Int32 × gS)} {HM : Nat → gS → Option (Int32 × gS)} (op0 : opLaw B n r w sg D opX opM) (op1 : opLaw B n r w sg (D + 1) opX opM) (st : lpStep B n r opX opM HX HM) (sf : lpFlt HX HM) : opLaw B n r w sg D (fun S => bnd (opX S) (fun q1 => HX 5000 0 q1.2)) (fun S => bnd (opM S) (fun q1 => HM 5000 q1.2)) := by
  intro S SM c s p k T F hK R hc
  obtain ⟨v, S2, v', SM2, b1, b2, o1, o2, s3, p3, k3, c3, T3, c7, r3, h⟩ := op0 S SM c s p k T F hK R hc
  have n7 := T.1.1
  show PP B n r w sg c (D + 1) s S SM (bnd (opX S) (fun q1 => HX 5000 0 q1.2)) (bnd (opM SM) (fun q1 => HM 5000 q1.2))
  rw [bnd_t b1, bnd_t b2]
  rcases h with ⟨F3, R3, e, e1, e2⟩ | h
  · obtain ⟨v3, S4, v4, SM4, g1, g2, o3, o4, s4, p4, k4, c4, T4, c47, r4, h4⟩ := loopP op1 st sf (by omega) n 5000 5000 0 S2 SM2 c3 s3 p3 k3 (by omega) (by omega) (by omega) T3 F3 (hK.on o1 o2) R3 (by omega) (by omega)
    refine ⟨v3, S4, v4, SM4, g1, g2, o1.tr o3, o2.tr o4, s4, p4, k4, c4, T4, c47, r4, ?_⟩
    rcases h4 with ⟨F4, R4, e', e1', e2'⟩ | h4
    · exact Or.inl ⟨F4, R4, e + e', by omega, by omega⟩
    · exact Or.inr h4
  · obtain ⟨g1, g2⟩ := sf 4999 4999 0 S2 SM2 h (by omega)
    exact ⟨0, S2, 0, SM2, g1, g2, o1, o2, s3, p3, k3, c3, T3, c7, r3, Or.inr h⟩
end
end

/-! part 92.parse -/
section
noncomputable def xNu (i j : Nat) : Bool := xTk i j || (i == 1 && (j == 2 || j == 3))
noncomputable def mNu (i j : Nat) : Bool := mTk i j || (i == 99 && (j == 27 || j == 28))
theorem xNu_f {i j : Nat} (h : xNu i j = false) : xTk i j = false ∧ ¬ (i = 1 ∧ (j = 2 ∨ j = 3)) := by
  unfold xNu at h
  simp only [Bool.or_eq_false_iff, Bool.and_eq_false_iff, beq_eq_false_iff_ne] at h
  exact ⟨h.1, by omega⟩
theorem mNu_f {i j : Nat} (h : mNu i j = false) : mTk i j = false ∧ ¬ (i = 99 ∧ (j = 27 ∨ j = 28)) := by
  unfold mNu at h
  simp only [Bool.or_eq_false_iff, Bool.and_eq_false_iff, beq_eq_false_iff_ne] at h
  exact ⟨h.1, by omega⟩
section
variable {B : Nat → Nat} {n s p k r w sg c D N : Nat} {S SM : gS}
theorem xNu.ex {S S' : gS} (h : oSame xNu S S') : oSame (xEx r) S S' := fun i j z => h i j (by
  obtain ⟨a, b, -⟩ := xEx_f z
  unfold xNu
  rw [a, Bool.false_or]
  cases q : (i == 1 && (j == 2 || j == 3)) with
  | false => rfl
  | true =>
    exfalso
    simp only [Bool.and_eq_true, Bool.or_eq_true, beq_iff_eq] at q
    exact b q)
theorem mNu.ex {S S' : gS} (h : oSame mNu S S') : oSame (mEx w sg) S S' := fun i j z => h i j (by
  obtain ⟨a, b, -⟩ := mEx_f z
  unfold mNu
  rw [a, Bool.false_or]
  cases q : (i == 99 && (j == 27 || j == 28)) with
  | false => rfl
  | true =>
    exfalso
    simp only [Bool.and_eq_true, Bool.or_eq_true, beq_iff_eq] at q
    exact b q)
/-- the next token, nothing else -/
theorem j_tok (T : tkJ B n s p k S SM) (F : fine S SM) (k0 : k ≠ 0) : ∃ S' SM' s' p' k', fX8_advance 5000 S = some (0, S') ∧ fX12_stepOn 5000 SM = some (0, SM') ∧ tkJ B n s' p' k' S' SM' ∧ fine S' SM' ∧ s + 1 ≤ s' ∧ oSame xTk S S' ∧ oSame mTk SM SM' := by
  have hk := T.2.2.2.1
  unfold tkK at hk
  have := hk.2.2.2.2 k0
  obtain ⟨S1, SM1, s1, p1, k1, a1, a2, T1, a3, a4, a5⟩ := j_step T.1 hk.2.1 T.2.1.1 T.2.1.2.1 T.2.2.1.1 T.2.2.1.2.1
  exact ⟨S1, SM1, s1, p1, k1, a1, a2, T1, ⟨⟨(a4 1 2 rfl).trans F.1.1, (a4 1 3 rfl).trans F.1.2⟩, (a5 99 27 rfl).trans F.2⟩, by omega, a4, a5⟩
/-- behind a small piece that lays nothing -/
def NUM (B : Nat → Nat) (n s : Nat) (S SM S' SM' : gS) (G : Prop) : Prop := oSame xNu S S' ∧ oSame mNu SM SM' ∧ ∃ s' p' k', tkJ B n s' p' k' S' SM' ∧ ((fine S' SM' ∧ s + 1 ≤ s' ∧ G) ∨ flt S' SM')
theorem j_refuse {q : Nat} {G : Prop} (hq : 1 ≤ q ∧ q ≤ 5) (T : tkJ B n s p k S SM) (F : fine S SM) : ∃ S' SM', fX3_refuse 5000 (nI q) S = some (0, S') ∧ fX12_wrong 5000 (nI q) SM = some (0, SM') ∧ flt S' SM' ∧ NUM B n s S SM S' SM' G := by
  obtain ⟨S', SM', a1, a2, a3, a4, a5, a6⟩ := j_wrong hq T F
  exact ⟨S', SM', a1, a2, a3, fun i j z => a5 i j (xNu_f z).2, fun i j z => a6 i j (mNu_f z).2, s, p, k, a4, Or.inr a3⟩
theorem j_skip {x : Int32} (T : tkJ B n s p k S SM) (F : fine S SM) : ∃ S' SM', fX3_skipSign 5000 x S = some (0, S') ∧ fX12_mark 5000 x SM = some (0, SM') ∧ NUM B n s S SM S' SM' (isS B k s x = true) ∧ (isS B k s x = false → flt S' SM') := by
  have hX : fX3_skipSign 5000 x S = if iv (isS B k s x) = 0 then fX3_skipSign_b11 5000 S else fX3_skipSign_b19 5000 S := by
    unfold fX3_skipSign fX3_skipSign_b0
    rw [bnd_t (x_isAtSign T)]
  have hM : fX12_mark 5000 x SM = if iv (isS B k s x) = 0 then fX12_mark_b15 5000 SM else fX12_mark_b20 5000 SM := by
    unfold fX12_mark fX12_mark_b0
    rw [if_pos F.2]
    unfold fX12_mark_b7
    rw [bnd_t (m_isMarked T F.2)]
  cases hb : isS B k s x with
  | false =>
    obtain ⟨S', SM', a1, a2, a3, a4⟩ := j_refuse (q := 1) (G := false = true) (by decide) T F
    refine ⟨S', SM', ?_, ?_, a4, fun _ => a3⟩
    · rw [hX, hb]
      show fX3_skipSign_b11 5000 S = _
      unfold fX3_skipSign_b11
      rw [bnd_t (show fX3_refuse 5000 1 S = _ from a1)]
      rfl
    · rw [hM, hb]
      show fX12_mark_b15 5000 SM = _
      unfold fX12_mark_b15
      rw [bnd_t (show fX12_wrong 5000 1 SM = _ from a2)]
      unfold fX12_mark_b20
      rw [if_neg (flt_x (N := 5000) a3).2.1]
      rfl
  | true =>
    have k0 : k ≠ 0 := by
      intro z
      unfold isS at hb
      rw [z] at hb
      cases hb
    obtain ⟨S', SM', s', p', k', a1, a2, a3, a4, a5, a6, a7⟩ := j_tok T F k0
    refine ⟨S', SM', ?_, ?_, ⟨fun i j z => a6 i j (xNu_f z).1, fun i j z => a7 i j (mNu_f z).1, s', p', k', a3, Or.inl ⟨a4, a5, rfl⟩⟩, fun z => by cases z⟩
    · rw [hX, hb]
      show fX3_skipSign_b19 5000 S = _
      unfold fX3_skipSign_b19
      rw [bnd_t (fine_x F)]
      show fX3_skipSign_b26 5000 S = _
      unfold fX3_skipSign_b26
      rw [bnd_t a1]
      rfl
    · rw [hM, hb]
      show fX12_mark_b20 5000 SM = _
      unfold fX12_mark_b20
      rw [if_pos F.2]
      unfold fX12_mark_b27
      rw [bnd_t a2]
      rfl
theorem j_skip0 {x : Int32} (T : tkJ B n s p k S SM) (h : flt S SM) : fX3_skipSign 5000 x S = some (0, S) ∧ fX12_mark 5000 x SM = some (0, SM) := by
  obtain ⟨f1, f2, f3⟩ := flt_x (N := 5000) h
  refine ⟨?_, ?_⟩
  · unfold fX3_skipSign fX3_skipSign_b0
    rw [bnd_t (x_isAtSign T)]
    cases isS B k s x with
    | false =>
      show fX3_skipSign_b11 5000 S = _
      unfold fX3_skipSign_b11
      rw [bnd_t (f3 1)]
      rfl
    | true =>
      show fX3_skipSign_b19 5000 S = _
      unfold fX3_skipSign_b19
      rw [bnd_t f1]
      rfl
  · unfold fX12_mark fX12_mark_b0
    rw [if_neg f2]
    unfold fX12_mark_b20
    rw [if_neg f2]
    rfl
/-- a number between bounds -/
theorem j_num {lo hi : Nat} (hl : lo ≤ 9999) (hh : hi ≤ 9999) (T : tkJ B n s p k S SM) (F : fine S SM) : ∃ v S' v' SM', fX3_readNumber 5000 (nI lo) (nI hi) S = some (v, S') ∧ fX12_readNumber 5000 (nI lo) (nI hi) SM = some (v', SM') ∧ NUM B n s S SM S' SM' (k = 2 ∧ ∃ y, lo ≤ y ∧ y ≤ hi ∧ v = nI y ∧ v' = nI y) ∧ (k ≠ 2 → flt S' SM') := by
  have n7 := T.1.1
  have hk := T.2.2.2.1
  unfold tkK at hk
  have b39 : ∀ S1 : gS, fX3_isFine 5000 S1 = some (0, S1) → fX3_readNumber_b39 5000 S1 = some (S1 2 6, S1) := by
    intro S1 h
    unfold fX3_readNumber_b39
    rw [bnd_t h]
    rfl
  have bad : ∀ q : Nat, 1 ≤ q ∧ q ≤ 5 → (fX3_readNumber 5000 (nI lo) (nI hi) S = bnd (fX3_refuse 5000 (nI q) S) (fun q1 => fX3_readNumber_b39 5000 q1.2)) → (fX12_numberNow 5000 (nI lo) (nI hi) SM = bnd (fX12_wrong 5000 (nI q) SM) (fun q1 => fX12_numberNow_b59 5000 q1.2)) → ∃ v S' v' SM', fX3_readNumber 5000 (nI lo) (nI hi) S = some (v, S') ∧ fX12_readNumber 5000 (nI lo) (nI hi) SM = some (v', SM') ∧ NUM B n s S SM S' SM' (k = 2 ∧ ∃ y, lo ≤ y ∧ y ≤ hi ∧ v = nI y ∧ v' = nI y) ∧ flt S' SM' := by
    intro q hq e1 e2
    obtain ⟨S', SM', a1, a2, a3, a4⟩ := j_refuse (q := q) (G := k = 2 ∧ ∃ y, lo ≤ y ∧ y ≤ hi ∧ (S 2 6 : Int32) = nI y ∧ (0 : Int32) = nI y) hq T F
    obtain ⟨f1, f2, f3⟩ := flt_x (N := 5000) a3
    refine ⟨S' 2 6, S', 0, SM', ?_, ?_, ⟨a4.1, a4.2.1, ?_⟩, a3⟩
    · rw [e1, bnd_t a1]
      exact b39 S' f1
    · unfold fX12_readNumber fX12_readNumber_b0
      have : fX12_numberNow 5000 (nI lo) (nI hi) SM = some (0, SM') := by
        rw [e2, bnd_t a2]
        show fX12_numberNow_b59 5000 SM' = _
        unfold fX12_numberNow_b59
        rw [if_neg f2]
        rfl
      rw [bnd_t this]
      show (if SM' 99 27 = 0 then _ else _) = _
      rw [if_neg f2]
      rfl
    · obtain ⟨-, -, s', p', k', t1, -⟩ := a4
      exact ⟨s', p', k', t1, Or.inr a3⟩
  by_cases k2 : k = 2
  · subst k2
    obtain ⟨v1, v2⟩ := T.2.2.2.2 rfl
    have e4 : S 2 4 = 2 := T.2.1.2.2.2
    have m4 : SM 99 23 = 2 := T.2.2.1.2.2.2.2
    have hX : fX3_readNumber 5000 (nI lo) (nI hi) S = fX3_readNumber_b19 5000 (nI lo) (nI hi) S := by
      unfold fX3_readNumber fX3_readNumber_b0
      rw [if_pos e4]
    have hM : fX12_numberNow 5000 (nI lo) (nI hi) SM = fX12_numberNow_b25 5000 (nI lo) (nI hi) SM := by
      unfold fX12_numberNow fX12_numberNow_b0
      rw [if_pos F.2]
      unfold fX12_numberNow_b9
      rw [if_pos m4]
    have eps : SM 99 26 - SM 99 25 = nI (p - s) := by rw [T.2.2.1.2.2.1, T.2.2.1.2.2.2.1, pk_sub hk.1]
    by_cases q : p - s ≤ 4
    · obtain ⟨y, y1, y2, y3⟩ := v1 q
      have hX2 : fX3_readNumber_b19 5000 (nI lo) (nI hi) S = if iv (wth (nI y) (nI lo) (nI hi)) = 0 then fX3_readNumber_b34 5000 S else fX3_readNumber_b39 5000 S := by
        unfold fX3_readNumber_b19
        rw [y2, bnd_t x_isWithin]
      have hM2 : fX12_numberNow_b25 5000 (nI lo) (nI hi) SM = fX12_numberNow_b38 5000 (nI lo) (nI hi) SM := by
        unfold fX12_numberNow_b25
        rw [eps, if_neg (show ¬ (4 : Int32) < nI (p - s) from nI_nlt (a := 4) (by omega) (by decide))]
      have b34 : fX3_readNumber_b34 5000 S = bnd (fX3_refuse 5000 (nI 2) S) (fun q1 => fX3_readNumber_b39 5000 q1.2) := rfl
      have b54 : fX12_numberNow_b54 5000 SM = bnd (fX12_wrong 5000 (nI 2) SM) (fun q1 => fX12_numberNow_b59 5000 q1.2) := rfl
      by_cases w1 : y < lo
      · have ew : wth (nI y) (nI lo) (nI hi) = false := by
          unfold wth
          rw [decide_eq_false (nI_ge w1 (by omega)), Bool.false_and]
        obtain ⟨v, S', v', SM', a1, a2, a3, a4⟩ := bad 2 (by decide) (by rw [hX, hX2, ew]; exact b34) (by
          rw [hM, hM2]
          unfold fX12_numberNow_b38
          rw [y3, if_pos (nI_lt w1 (by omega))]
          exact b54)
        exact ⟨v, S', v', SM', a1, a2, a3, fun z => absurd rfl z⟩
      · by_cases w2 : y ≤ hi
        · have ew : wth (nI y) (nI lo) (nI hi) = true := by
            unfold wth
            rw [decide_eq_true (nI_le (by omega) (by omega)), decide_eq_true (nI_le w2 (by omega))]
            rfl
          obtain ⟨S', SM', s', p', k', a1, a2, a3, a4, a5, a6, a7⟩ := j_tok T F (by decide)
          refine ⟨nI y, S', nI y, SM', ?_, ?_, ⟨fun i j z => a6 i j (xNu_f z).1, fun i j z => a7 i j (mNu_f z).1, s', p', k', a3, Or.inl ⟨a4, a5, rfl, y, by omega, w2, rfl, rfl⟩⟩, fun z => absurd rfl z⟩
          · rw [hX, hX2, ew]
            show fX3_readNumber_b39 5000 S = _
            unfold fX3_readNumber_b39
            rw [bnd_t (fine_x F), y2]
            show fX3_readNumber_b54 5000 (nI y) S = _
            unfold fX3_readNumber_b54
            rw [bnd_t a1]
            rfl
          · have e1 : fX12_numberNow 5000 (nI lo) (nI hi) SM = some (nI y, SM) := by
              rw [hM, hM2]
              unfold fX12_numberNow_b38
              rw [y3, if_neg (nI_nlt (by omega) (by omega))]
              unfold fX12_numberNow_b46
              rw [y3, if_pos (nI_le w2 (by omega))]
              unfold fX12_numberNow_b59
              rw [if_pos F.2]
              unfold fX12_numberNow_b66
              rw [y3]
              rfl
            unfold fX12_readNumber fX12_readNumber_b0
            rw [bnd_t e1]
            show (if SM 99 27 = 0 then _ else _) = _
            rw [if_pos F.2]
            unfold fX12_readNumber_b14
            rw [bnd_t a2]
            rfl
        · have ew : wth (nI y) (nI lo) (nI hi) = false := by
            unfold wth
            rw [decide_eq_false (nI_ge (a := hi) (b := y) (by omega) (by omega)), Bool.and_false]
          obtain ⟨v, S', v', SM', a1, a2, a3, a4⟩ := bad 2 (by decide) (by rw [hX, hX2, ew]; exact b34) (by
            rw [hM, hM2]
            unfold fX12_numberNow_b38
            rw [y3, if_neg (nI_nlt (by omega) (by omega))]
            unfold fX12_numberNow_b46
            rw [y3, if_neg (nI_ge (by omega) (by omega))]
            exact b54)
          exact ⟨v, S', v', SM', a1, a2, a3, fun z => absurd rfl z⟩
    · have h6 := v2 (by omega)
      have b34 : fX3_readNumber_b34 5000 S = bnd (fX3_refuse 5000 (nI 2) S) (fun q1 => fX3_readNumber_b39 5000 q1.2) := rfl
      have b54 : fX12_numberNow_b54 5000 SM = bnd (fX12_wrong 5000 (nI 2) SM) (fun q1 => fX12_numberNow_b59 5000 q1.2) := rfl
      have ew : wth (nI 10000) (nI lo) (nI hi) = false := by
        unfold wth
        rw [decide_eq_false (nI_ge (a := hi) (b := 10000) (by omega) (by omega)), Bool.and_false]
      obtain ⟨v, S', v', SM', a1, a2, a3, a4⟩ := bad 2 (by decide) (by
        rw [hX]
        unfold fX3_readNumber_b19
        rw [h6, bnd_t x_isWithin, ew]
        exact b34) (by
        rw [hM]
        unfold fX12_numberNow_b25
        rw [eps, if_pos (show (4 : Int32) < nI (p - s) from nI_lt (a := 4) (by omega) (by omega))]
        exact b54)
      exact ⟨v, S', v', SM', a1, a2, a3, fun z => absurd rfl z⟩
  · have e4 : ¬ S 2 4 = 2 := by
      rw [T.2.1.2.2.2]
      exact fun z => k2 ((nI_eq (b := 2) (by omega) (by omega)).mp z)
    have m4 : ¬ SM 99 23 = 2 := by
      rw [T.2.2.1.2.2.2.2]
      exact fun z => k2 ((nI_eq (b := 2) (by omega) (by omega)).mp z)
    obtain ⟨v, S', v', SM', a1, a2, a3, a4⟩ := bad 1 (by decide) (by
      unfold fX3_readNumber fX3_readNumber_b0
      rw [if_neg e4]
      rfl) (by
      unfold fX12_numberNow fX12_numberNow_b0
      rw [if_pos F.2]
      unfold fX12_numberNow_b9
      rw [if_neg m4]
      rfl)
    exact ⟨v, S', v', SM', a1, a2, a3, fun _ => a4⟩
end
end

/-! part 93.parse -/
section
section
variable {B : Nat → Nat} {n s p k r w sg c D N a d : Nat} {S SM : gS}
theorem m_which {l L : Nat} (hl : (l = 0 ∧ L = 2) ∨ (l = 1 ∧ L = 6) ∨ (l = 2 ∧ L = 7)) (T : tkJ B n s p k S SM) (F : fine S SM) : fX12_which 5000 l SM = some (owV (fun i => isW B k s p (mS l i)) L, SM) := by
  have hm : mN l = L := by rcases hl with ⟨rfl, rfl⟩ | ⟨rfl, rfl⟩ | ⟨rfl, rfl⟩ <;> rfl
  have hs : ∀ i, i < L → mS l i < 45 := by
    rcases hl with ⟨rfl, rfl⟩ | ⟨rfl, rfl⟩ | ⟨rfl, rfl⟩ <;> decide
  have hL : L ≤ 7 := by omega
  have main : Gv (fX12_which_h2 5000 5000 l 0 SM) (fun q => ansL (fun i => isW B k s p (mS l i)) L q.1 ∧ q.2 = SM) := by
    refine loopG (A := Unit) (fun f i _ => fX12_which_h2 5000 f l (nI i) SM) (fun i _ => ∀ j, j < i → isW B k s p (mS l j) = false) _ L ?_ ?_ L 0 () 5000 (by omega) (fun _ q => absurd q (by omega)) (by omega)
    · rintro f u i1
      refine ⟨(-1, SM), ?_, Or.inr ⟨i1, rfl⟩, rfl⟩
      show fX12_which_b2 5000 _ l (nI L) SM = _
      unfold fX12_which_b2
      rw [hm, if_pos (show Int32.ofNat L ≤ nI L from nI_le (Nat.le_refl _) (by omega))]
      rfl
    · rintro f i u hi i1
      have hF : fX12_which_h2 5000 (f + 1) l (nI i) SM = if iv (isW B k s p (mS l i)) = 0 then fX12_which_h2 5000 f l (nI (i + 1)) SM else some (nI i, SM) := by
        show fX12_which_b2 5000 (fX12_which_h2 5000 f) l (nI i) SM = _
        unfold fX12_which_b2
        rw [hm, if_neg (show ¬ Int32.ofNat L ≤ nI i from nI_ge hi (by omega))]
        unfold fX12_which_b8
        rw [nI_clamp (by omega), hm, chk_t (inb_t hi (by omega)), chk_t (show sI (mS l i) = true from decide_eq_true (hs i hi)), bnd_t (m_is (hs i hi) T F.2)]
        unfold fX12_which_b20
        rw [nI_1 i]
        rfl
      cases hb : isW B k s p (mS l i) with
      | false =>
        refine Or.inr ⟨(), fun j hj => ?_, ?_⟩
        · by_cases e : j = i
          · rw [e]; exact hb
          · exact i1 j (by omega)
        · show fX12_which_h2 5000 (f + 1) l (nI i) SM = _
          rw [hF, hb]
          rfl
      | true =>
        refine Or.inl ⟨(nI i, SM), ?_, Or.inl ⟨i, hi, hb, i1, rfl⟩, rfl⟩
        show fX12_which_h2 5000 (f + 1) l (nI i) SM = _
        rw [hF, hb]
        rfl
  obtain ⟨⟨v, S'⟩, r1, r2, r3⟩ := main
  dsimp only at r2 r3
  subst r3
  unfold fX12_which fX12_which_b0
  rw [r1, owV_an r2]
theorem x_valueCode {l L : Nat} (hl : (l = 1 ∧ L = 6 ∧ S r 2 = 0) ∨ (l = 2 ∧ L = 7 ∧ S r 2 = 1)) (T : tkJ B n s p k S SM) : fX3_valueCode 5000 r S = some ((if owV (fun i => isW B k s p (mS l i)) L = -1 then -1 else 10000 + owV (fun i => isW B k s p (mS l i)) L), S) := by
  have hw : isW B k s p (mS l 0) = isW B k s p 10 ∧ isW B k s p (mS l 1) = isW B k s p 11 ∧ isW B k s p (mS l 2) = isW B k s p 12 ∧ isW B k s p (mS l 3) = isW B k s p 13 ∧ isW B k s p (mS l 4) = isW B k s p 6 ∧ isW B k s p (mS l 5) = isW B k s p 14 := by
    rcases hl with ⟨rfl, -, -⟩ | ⟨rfl, -, -⟩ <;> exact ⟨rfl, rfl, rfl, rfl, rfl, rfl⟩
  obtain ⟨w0, w1, w2, w3, w4, w5⟩ := hw
  have hL : 6 ≤ L := by omega
  have hv : ∀ j, j < L → isW B k s p (mS l j) = true → (∀ i, i < j → isW B k s p (mS l i) = false) → owV (fun i => isW B k s p (mS l i)) L = nI j := fun j a b d => (owV_an (Or.inl ⟨j, a, b, d, rfl⟩)).symm
  unfold fX3_valueCode fX3_valueCode_b0
  rw [bnd_t (x_isAtWord (by decide) T)]
  cases h0 : isW B k s p 10 with
  | true =>
    rw [hv 0 (by omega) (w0.trans h0) (fun i hi => absurd hi (by omega))]
    rfl
  | false =>
  show fX3_valueCode_b16 5000 r S = _
  unfold fX3_valueCode_b16
  rw [bnd_t (x_isAtWord (by decide) T)]
  cases h1 : isW B k s p 11 with
  | true =>
    rw [hv 1 (by omega) (w1.trans h1) (fun i hi => by obtain rfl : i = 0 := by omega
                                                      exact w0.trans h0)]
    rfl
  | false =>
  show fX3_valueCode_b32 5000 r S = _
  unfold fX3_valueCode_b32
  rw [bnd_t (x_isAtWord (by decide) T)]
  cases h2 : isW B k s p 12 with
  | true =>
    rw [hv 2 (by omega) (w2.trans h2) (fun i hi => by
      rcases (show i = 0 ∨ i = 1 by omega) with rfl | rfl
      · exact w0.trans h0
      · exact w1.trans h1)]
    rfl
  | false =>
  show fX3_valueCode_b48 5000 r S = _
  unfold fX3_valueCode_b48
  rw [bnd_t (x_isAtWord (by decide) T)]
  cases h3 : isW B k s p 13 with
  | true =>
    rw [hv 3 (by omega) (w3.trans h3) (fun i hi => by
      rcases (show i = 0 ∨ i = 1 ∨ i = 2 by omega) with rfl | rfl | rfl
      · exact w0.trans h0
      · exact w1.trans h1
      · exact w2.trans h2)]
    rfl
  | false =>
  show fX3_valueCode_b64 5000 r S = _
  unfold fX3_valueCode_b64
  rw [bnd_t (x_isAtWord (by decide) T)]
  cases h4 : isW B k s p 6 with
  | true =>
    rw [hv 4 (by omega) (w4.trans h4) (fun i hi => by
      rcases (show i = 0 ∨ i = 1 ∨ i = 2 ∨ i = 3 by omega) with rfl | rfl | rfl | rfl
      · exact w0.trans h0
      · exact w1.trans h1
      · exact w2.trans h2
      · exact w3.trans h3)]
    rfl
  | false =>
  show fX3_valueCode_b80 5000 r S = _
  unfold fX3_valueCode_b80
  rw [bnd_t (x_isAtWord (by decide) T)]
  have pr : isW B k s p 14 = false → ∀ i, i < 6 → isW B k s p (mS l i) = false := by
    intro h5 i hi
    rcases (show i = 0 ∨ i = 1 ∨ i = 2 ∨ i = 3 ∨ i = 4 ∨ i = 5 by omega) with rfl | rfl | rfl | rfl | rfl | rfl
    · exact w0.trans h0
    · exact w1.trans h1
    · exact w2.trans h2
    · exact w3.trans h3
    · exact w4.trans h4
    · exact w5.trans h5
  cases h5 : isW B k s p 14 with
  | true =>
    rw [hv 5 (by omega) (w5.trans h5) (fun i hi => by
      rcases (show i = 0 ∨ i = 1 ∨ i = 2 ∨ i = 3 ∨ i = 4 by omega) with rfl | rfl | rfl | rfl | rfl
      · exact w0.trans h0
      · exact w1.trans h1
      · exact w2.trans h2
      · exact w3.trans h3
      · exact w4.trans h4)]
    rfl
  | false =>
  show fX3_valueCode_b96 5000 r S = _
  unfold fX3_valueCode_b96
  rcases hl with ⟨rfl, rfl, h⟩ | ⟨rfl, rfl, h⟩
  · rw [if_pos h, show owV (fun i => isW B k s p (mS 1 i)) 6 = -1 from (owV_an (Or.inr ⟨pr h5, rfl⟩)).symm]
    rfl
  · rw [if_neg (by rw [h]; decide)]
    unfold fX3_valueCode_b103
    rw [bnd_t (x_isAtWord (by decide) T)]
    have w6 : isW B k s p (mS 2 6) = isW B k s p 15 := rfl
    cases h6 : isW B k s p 15 with
    | true =>
      rw [hv 6 (by omega) (w6.trans h6) (pr h5)]
      rfl
    | false =>
      rw [show owV (fun i => isW B k s p (mS 2 i)) 7 = -1 from (owV_an (Or.inr ⟨fun i hi => by
        by_cases e : i = 6
        · rw [e]; exact w6.trans h6
        · exact pr h5 i (by omega), rfl⟩)).symm]
      rfl
theorem rlJ.nu {S' SM' : gS} (hK : rlK r w sg S SM) (R : rlJ r w sg c D S SM) (o1 : oSame xNu S S') (o2 : oSame mNu SM SM') : rlJ r w sg c D S' SM' := by
  have hr : r = 14 ∨ r = 17 ∨ r = 82 ∨ r = 85 := hK.1
  have hw : (w = 10 ∧ sg = 15) ∨ (w = 11 ∧ sg = 16) := by
    rcases hK.2 with ⟨a, b, -⟩ | ⟨a, b, -⟩
    · exact Or.inl ⟨a, b⟩
    · exact Or.inr ⟨a, b⟩
  obtain ⟨R1, R2, R3, R4, R5, R6⟩ := R
  have er1 : S' (r + 1) = S (r + 1) := funext fun j => o1 (r + 1) j (by rcases hr with z | z | z | z <;> rw [z] <;> rfl)
  refine ⟨(o1 r 3 (by rcases hr with z | z | z | z <;> rw [z] <;> rfl)).trans R1, ?_, R3, fun i hi => ?_, by rw [er1]; exact R5, by rw [er1]; exact R6⟩
  · rw [o2 5 w rfl]; exact R2
  · rw [er1, o2 sg _ (by rcases hw with ⟨-, z⟩ | ⟨-, z⟩ <;> rw [z] <;> rfl)]; exact R4 i hi
end
end

/-! part 94.parse -/
section
theorem sg_val : ∀ i, i < 7 → sgn (10000 + nI i) = -1 - nI i ∧ (0 ≤ 10000 + nI i ∧ 10000 + nI i ≤ 10006) ∧ 10000 + nI i < 10010 ∧ ¬ nI i = -1 ∧ ¬ (10000 + nI i : Int32) = -1 := by decide +kernel
section
variable {B : Nat → Nat} {n s p k r w sg c D N a d : Nat} {S SM : gS}
/-- behind a FAULT: one code more of the class does no harm -/
theorem O_flt {S1 SM1 : gS} {x x' : Int32} {s' p' k' c' : Nat} (hK : rlK r w sg S SM) (o1 : oSame (xEx r) S S1) (o2 : oSame (mEx w sg) SM SM1) (T : tkJ B n s' p' k' S1 SM1) (c7 : c' ≤ 700) (r3 : S1 r 3 = nI c') (h : flt S1 SM1) : ∃ S2, fX4_add 5000 r x S1 = some (0, S2) ∧ fX12_lay 5000 x' SM1 = some (0, SM1) ∧ OUT B n r w sg c D s S SM S2 SM1 := by
  obtain ⟨S2, c2, a1, a2, a3, a4⟩ := x_add0 (x := x) c7 r3
  have hr : r = 14 ∨ r = 17 ∨ r = 82 ∨ r = 85 := hK.1
  refine ⟨S2, a1, m_lay0 (flt_x (N := 5000) h).2.1, o1.tr (fun i j z => ?_), o2, s', p', k', c2, T.on (fun j => a4 2 j (by omega) (by omega)) (fun j => a4 3 j (by omega) (by omega)) (fun _ _ _ => rfl) (fun _ _ => rfl), a2, a3, Or.inr ?_⟩
  · obtain ⟨z1, z2, z3, z4⟩ := xEx_f z
    exact a4 i j z3 z4
  · obtain ⟨q, q1, q2, q3, q4, q5⟩ := h
    exact ⟨q, q1, q2, by rw [a4 1 2 (by omega) (by omega)]; exact q3, q4, by rw [a4 1 3 (by omega) (by omega)]; exact q5⟩
theorem rlJ.r3 {S' : gS} (hK : rlK r w sg S SM) (h : S r 3 = nI c) (o1 : oSame xNu S S') : S' r 3 = nI c := by
  have hr : r = 14 ∨ r = 17 ∨ r = 82 ∨ r = 85 := hK.1
  exact (o1 r 3 (by rcases hr with z | z | z | z <;> rw [z] <;> rfl)).trans h
theorem partLaw {rEx : Nat → Int32 → gS → Option (Int32 × gS)} {rEm : Int32 → gS → Option (Int32 × gS)} (hd : d < 31) (hE : opLaw B n r w sg d (rEx r (nI (a + 1))) (rEm (nI (a + 1)))) (hE0 : ∀ SM : gS, SM 99 27 ≠ 0 → rEm (nI (a + 1)) SM = some (0, SM)) : opLaw B n r w sg d (fX3_readPart 5000 rEx r (nI a)) (fX12_readPart 5000 rEm (nI a)) := by
  intro S SM c s p k T F hK R hc
  have n7 := T.1.1
  have hk := T.2.2.2.1
  unfold tkK at hk
  have e4 : S 2 4 = nI k := T.2.1.2.2.2
  have m4 : SM 99 23 = nI k := T.2.2.1.2.2.2.2
  have hX0 : fX3_readPart 5000 rEx r (nI a) S = if iv (isS B k s 40) = 0 then fX3_readPart_b36 5000 rEx r S else fX3_readPart_b12 5000 rEx r (nI a) S := by
    unfold fX3_readPart fX3_readPart_b0
    rw [bnd_t (x_isAtSign T)]
  have hM0 : fX12_readPart 5000 rEm (nI a) SM = if nI k = 2 then fX12_readPart_b16 5000 rEm SM else if nI k = 1 then fX12_readPart_b37 5000 rEm SM else fX12_readPart_b75 5000 rEm (nI a) SM := by
    unfold fX12_readPart fX12_readPart_b0
    rw [if_pos F.2]
    unfold fX12_readPart_b8 fX12_readPart_b29
    rw [m4]
  cases hb : isS B k s 40 with
  | true =>
    have k3 : k = 3 := by
      unfold isS at hb
      rw [Bool.and_eq_true] at hb
      exact of_decide_eq_true hb.1
    obtain ⟨S1, SM1, s1, p1, k1, a1, a2, T1, F1, a5, a6, a7⟩ := j_tok T F (by omega)
    have o1 : oSame xNu S S1 := fun i j z => a6 i j (xNu_f z).1
    have o2 : oSame mNu SM SM1 := fun i j z => a7 i j (mNu_f z).1
    have x1 := xNu.ex (r := r) o1
    have x2 := mNu.ex (w := w) (sg := sg) o2
    have hK1 := hK.on x1 x2
    obtain ⟨v, S2, v', SM2, b1, b2, u1, u2, s2, p2, k2, c2, T2, c7, r3, h⟩ := hE S1 SM1 c s1 p1 k1 T1 F1 hK1 (R.nu hK o1 o2) (by omega)
    have mk : fX12_mark 5000 40 SM = some (0, SM1) := by
      unfold fX12_mark fX12_mark_b0
      rw [if_pos F.2]
      unfold fX12_mark_b7
      rw [bnd_t (m_isMarked T F.2), hb]
      show fX12_mark_b20 5000 SM = _
      unfold fX12_mark_b20
      rw [if_pos F.2]
      unfold fX12_mark_b27
      rw [bnd_t a2]
      rfl
    have hX : fX3_readPart 5000 rEx r (nI a) S = bnd (fX3_skipSign 5000 41 S2) (fun q3 => fX3_readPart_b95 5000 rEx q3.2) := by
      rw [hX0, hb]
      show fX3_readPart_b12 5000 rEx r (nI a) S = _
      unfold fX3_readPart_b12
      rw [bnd_t a1, nI_1 a]
      dsimp only
      rw [bnd_t b1]
    have hM : fX12_readPart 5000 rEm (nI a) SM = bnd (fX12_mark 5000 41 SM2) (fun q3 => some (0, q3.2)) := by
      rw [hM0, k3, if_neg (by decide), if_neg (by decide)]
      unfold fX12_readPart_b75
      rw [bnd_t mk, nI_1 a]
      dsimp only
      rw [bnd_t b2]
    have hK2 := hK1.on u1 u2
    rw [hX, hM]
    rcases h with ⟨F2, R2, e, e1, e2⟩ | h
    · obtain ⟨S3, SM3, d1, d2, ⟨d3, d4, s3, p3, k3', T3, d5⟩, -⟩ := j_skip (x := 41) T2 F2
      rw [bnd_t d1, bnd_t d2]
      refine ⟨0, S3, 0, SM3, rfl, rfl, (x1.tr u1).tr (xNu.ex d3), (x2.tr u2).tr (mNu.ex d4), s3, p3, k3', c2, T3, c7, rlJ.r3 hK2 r3 d3, ?_⟩
      rcases d5 with ⟨F3, f1, -⟩ | d5
      · exact Or.inl ⟨F3, R2.nu hK2 d3 d4, e, e1, by omega⟩
      · exact Or.inr d5
    · obtain ⟨d1, d2⟩ := j_skip0 (x := 41) T2 h
      rw [bnd_t d1, bnd_t d2]
      exact ⟨0, S2, 0, SM2, rfl, rfl, x1.tr u1, x2.tr u2, s2, p2, k2, c2, T2, c7, r3, Or.inr h⟩
  | false =>
    have hX1 : fX3_readPart 5000 rEx r (nI a) S = if nI k = 1 then fX3_readPart_b62 5000 rEx r S else fX3_readPart_b47 5000 rEx r S := by
      rw [hX0, hb]
      show fX3_readPart_b36 5000 rEx r S = _
      unfold fX3_readPart_b36
      rw [e4]
    by_cases k2 : k = 2
    · subst k2
      obtain ⟨v, S1, v', SM1, a1, a2, ⟨o1, o2, s1, p1, k1, T1, h⟩, -⟩ := j_num (lo := 0) (hi := 9999) (by decide) (by decide) T F
      have x1 := xNu.ex (r := r) o1
      have x2 := mNu.ex (w := w) (sg := sg) o2
      have hX : fX3_readPart 5000 rEx r (nI a) S = bnd (fX4_add 5000 r v S1) (fun q2 => fX3_readPart_b95 5000 rEx q2.2) := by
        rw [hX1, if_neg (by decide)]
        unfold fX3_readPart_b47
        rw [bnd_t (show fX3_readNumber 5000 0 9999 S = _ from a1)]
      have hM : fX12_readPart 5000 rEm (nI a) SM = bnd (fX12_lay 5000 v' SM1) (fun q2 => some (0, q2.2)) := by
        rw [hM0, if_pos (by decide)]
        unfold fX12_readPart_b16
        rw [bnd_t (show fX12_readNumber 5000 0 9999 SM = _ from a2)]
      rw [hX, hM]
      rcases h with ⟨F1, e1, -, y, y1, y2, rfl, rfl⟩ | h
      · have hk1 := T1.2.2.2.1
        unfold tkK at hk1
        have ok : okX (nI y) d (d + 1) := by
          refine ⟨Or.inl ⟨⟨nI_le (a := 0) (by omega) (by omega), nI_le (b := 10006) (by omega) (by decide)⟩, hd⟩, ?_⟩
          rw [if_pos (show nI y < 10010 from nI_lt (b := 10010) (by omega) (by decide))]
        have es : sgn (nI y) = nI y := by
          unfold sgn
          rw [if_pos (show nI y ≤ 9999 from nI_le (b := 9999) y2 (by decide))]
        obtain ⟨S2, SM2, b1, b2, T2, F2, R2, b6, b7⟩ := j_add T1 F1 (hK.on x1 x2) (R.nu hK o1 o2) (by omega) ok
        rw [es] at b2
        rw [bnd_t b1, bnd_t b2]
        exact ⟨0, S2, 0, SM2, rfl, rfl, x1.tr b6, x2.tr b7, s1, p1, k1, c + 1, T2, R2.2.2.1, R2.1, Or.inl ⟨F2, R2, 1, rfl, e1⟩⟩
      · obtain ⟨S2, b1, b2, O⟩ := O_flt (c := c) (D := d + 1) (s := s) (x := v) (x' := v') hK x1 x2 T1 R.2.2.1 (rlJ.r3 hK R.1 o1) h
        rw [bnd_t b1, bnd_t b2]
        exact ⟨0, S2, 0, SM1, rfl, rfl, O⟩
    · have nk2 : ¬ nI k = 2 := fun z => k2 ((nI_eq (b := 2) (by omega) (by omega)).mp z)
      by_cases k1 : k = 1
      · subst k1
        have hsp := hk.2.2.2.2 (by decide)
        obtain ⟨l, L, hl1, hl2, hl3⟩ : ∃ l L, ((l = 1 ∧ L = 6 ∧ S r 2 = 0) ∨ (l = 2 ∧ L = 7 ∧ S r 2 = 1)) ∧ (if SM 99 3 = 0 then 1 else 2) = l ∧ L ≤ 7 := by
          rcases hK.2 with ⟨-, -, -, q1, q2⟩ | ⟨-, -, -, q1, q2⟩
          · exact ⟨1, 6, Or.inl ⟨rfl, rfl, q2⟩, by rw [q1]; rfl, by decide⟩
          · exact ⟨2, 7, Or.inr ⟨rfl, rfl, q2⟩, by rw [q1]; rfl, by decide⟩
        have hv := x_valueCode hl1 T
        have hw := m_which (l := l) (L := L) (by omega) T F
        rw [← hl2] at hw
        have hX : fX3_readPart 5000 rEx r (nI a) S = fX3_readPart_b62 5000 rEx r S := by
          rw [hX1, if_pos (by decide)]
        have hM : fX12_readPart 5000 rEm (nI a) SM = fX12_readPart_b37 5000 rEm SM := by
          rw [hM0, if_neg (by decide), if_pos (by decide)]
        rw [hX, hM]
        unfold fX3_readPart_b62 fX12_readPart_b37
        rw [bnd_t hv, bnd_t hw, hl2]
        unfold owV
        by_cases q : fsK (fun i => isW B 1 s p (mS l i)) L < L
        · obtain ⟨i, hi⟩ : ∃ i, i = fsK (fun i => isW B 1 s p (mS l i)) L := ⟨_, rfl⟩
          obtain ⟨g1, g2, g3, g4, g5⟩ := sg_val i (by omega)
          have eo : owV (fun i => isW B 1 s p (mS l i)) L = nI i := by
            unfold owV
            rw [if_pos q, hi]
          rw [if_pos q, ← hi]
          dsimp only
          rw [if_neg g4, if_neg g5, if_neg g4]
          have ok : okX (10000 + nI i) d (d + 1) := ⟨Or.inl ⟨g2, hd⟩, by rw [if_pos g3]⟩
          obtain ⟨S2, SM2, b1, b2, T2, F2, R2, b6, b7⟩ := j_add T F hK R (by omega) ok
          obtain ⟨S3, SM3, s3, p3, k3, c1, c2, T3, F3, c5, c6, c7⟩ := j_tok T2 F2 (by decide)
          have o1 : oSame xNu S2 S3 := fun i j z => c6 i j (xNu_f z).1
          have o2 : oSame mNu SM2 SM3 := fun i j z => c7 i j (mNu_f z).1
          have hK2 := hK.on b6 b7
          have R3 := R2.nu hK2 o1 o2
          refine ⟨0, S3, 0, SM3, ?_, ?_, b6.tr (xNu.ex o1), b7.tr (mNu.ex o2), s3, p3, k3, c + 1, T3, R3.2.2.1, R3.1, Or.inl ⟨F3, R3, 1, rfl, c5⟩⟩
          · unfold fX3_readPart_b79
            rw [bnd_t hv, eo, if_neg g4]
            dsimp only
            rw [bnd_t b1]
            dsimp only
            rw [bnd_t c1]
            rfl
          · unfold fX12_readPart_b56
            rw [← g1, bnd_t b2]
            show (if SM2 99 27 = 0 then _ else _) = _
            rw [if_pos F2.2]
            unfold fX12_readPart_b70
            rw [bnd_t c2]
            rfl
        · rw [if_neg q, if_pos rfl]
          dsimp only
          rw [if_pos rfl, if_pos rfl]
          obtain ⟨S', SM', a1, a2, a3, ⟨o1, o2, s1, p1, k1, T1, -⟩⟩ := j_refuse (q := 3) (G := True) (by decide) T F
          refine ⟨0, S', 0, SM', ?_, ?_, xNu.ex o1, mNu.ex o2, s1, p1, k1, c, T1, R.2.2.1, rlJ.r3 hK R.1 o1, Or.inr a3⟩
          · unfold fX3_readPart_b71
            rw [bnd_t (show fX3_refuse 5000 3 S = _ from a1)]
            rfl
          · unfold fX12_readPart_b51
            rw [bnd_t (show fX12_wrong 5000 3 SM = _ from a2)]
            unfold fX12_readPart_b56
            have f2 := (flt_x (N := 5000) a3).2.1
            rw [bnd_t (m_lay0 f2)]
            show (if SM' 99 27 = 0 then _ else _) = _
            rw [if_neg f2]
            rfl
      · have nk1 : ¬ nI k = 1 := fun z => k1 ((nI_eq (b := 1) (by omega) (by omega)).mp z)
        obtain ⟨S', SM', a1, a2, a3, ⟨o1, o2, s1, p1, k1', T1, -⟩⟩ := j_refuse (q := 1) (G := True) (by decide) T F
        obtain ⟨f1, f2, f3⟩ := flt_x (N := 5000) a3
        obtain ⟨S2, b1, b2, O⟩ := O_flt (c := c) (D := d + 1) (s := s) (x := S' 2 6) (x' := 0) hK (xNu.ex o1) (mNu.ex o2) T1 R.2.2.1 (rlJ.r3 hK R.1 o1) a3
        refine ⟨0, S2, 0, SM', ?_, ?_, O⟩
        · rw [hX1, if_neg nk1]
          unfold fX3_readPart_b47
          have rn : fX3_readNumber 5000 0 9999 S = some (S' 2 6, S') := by
            unfold fX3_readNumber fX3_readNumber_b0
            rw [e4, if_neg nk2]
            unfold fX3_readNumber_b11
            rw [bnd_t (show fX3_refuse 5000 1 S = _ from a1)]
            show fX3_readNumber_b39 5000 S' = _
            unfold fX3_readNumber_b39
            rw [bnd_t f1]
            rfl
          rw [bnd_t rn]
          dsimp only
          rw [bnd_t b1]
          rfl
        · rw [hM0, if_neg nk2, if_neg nk1]
          unfold fX12_readPart_b75
          have mk : fX12_mark 5000 40 SM = some (0, SM') := by
            unfold fX12_mark fX12_mark_b0
            rw [if_pos F.2]
            unfold fX12_mark_b7
            rw [bnd_t (m_isMarked T F.2), hb]
            show fX12_mark_b15 5000 SM = _
            unfold fX12_mark_b15
            rw [bnd_t (show fX12_wrong 5000 1 SM = _ from a2)]
            show fX12_mark_b20 5000 SM' = _
            unfold fX12_mark_b20
            rw [if_neg f2]
            rfl
          rw [bnd_t mk, nI_1 a]
          dsimp only
          rw [bnd_t (hE0 SM' f2)]
          dsimp only
          rw [bnd_t (j_skip0 (x := 41) T1 a3).2]
end
end

/-! part 95.parse -/
section
section
variable {B : Nat → Nat} {n s p k r w sg c D N a d i : Nat} {S SM : gS}
theorem far_k (T : tkJ B n s p k S SM) (hi : i ≤ s) (h7 : 700 ≤ i) : k = 0 := by
  have n7 := T.1.1
  have hk := T.2.2.2.1
  unfold tkK at hk
  by_cases z : k = 0
  · exact z
  · have := hk.2.2.2.2 z
    omega
theorem isS_k {x : Int32} (h : isS B k s x = true) : k ≠ 0 := by
  intro z
  unfold isS at h
  rw [z] at h
  cases h
theorem isW_k {v : Nat} (h : isW B k s p v = true) : k ≠ 0 := by
  intro z
  unfold isW isWl at h
  rw [z] at h
  cases h
theorem isS_0 {x : Int32} (h : k = 0) : isS B k s x = false := by
  unfold isS
  rw [h]
  rfl
theorem isW_0 {v : Nat} (h : k = 0) : isW B k s p v = false := by
  unfold isW isWl
  rw [h]
  rfl
variable {rEx : Nat → Int32 → gS → Option (Int32 × gS)} {rEm : Int32 → gS → Option (Int32 × gS)}
theorem part0 {x : Int32} (h : SM 99 27 ≠ 0) : fX12_readPart 5000 rEm x SM = some (0, SM) := by
  unfold fX12_readPart fX12_readPart_b0
  rw [if_neg h]
  rfl
theorem prod_st : lpStep B n r (fX3_readPart 5000 rEx r (nI a)) (fX12_readPart 5000 rEm (nI a)) (fun f x S => fX3_readProduct_h8 5000 rEx f r (nI a) x S) (fun f S => fX12_readProduct_h5 5000 rEm f (nI a) S) := by
  intro f f' i S SM s p k T F hi
  have hM0 : fX12_readProduct_h5 5000 rEm (f' + 1) (nI a) SM = if iv (isS B k s 42) = 0 then (if iv (isS B k s 47) = 0 then some (0, SM) else fX12_readProduct_b37 5000 rEm (fX12_readProduct_h5 5000 rEm f') (nI a) SM) else fX12_readProduct_b32 5000 rEm (fX12_readProduct_h5 5000 rEm f') (nI a) SM := by
    show fX12_readProduct_b5 5000 rEm (fX12_readProduct_h5 5000 rEm f') (nI a) SM = _
    have e23 : fX12_readProduct_b23 5000 rEm (fX12_readProduct_h5 5000 rEm f') (nI a) SM = if iv (isS B k s 42) = 0 then fX12_readProduct_b37 5000 rEm (fX12_readProduct_h5 5000 rEm f') (nI a) SM else fX12_readProduct_b32 5000 rEm (fX12_readProduct_h5 5000 rEm f') (nI a) SM := by
      unfold fX12_readProduct_b23
      rw [bnd_t (m_isMarked T F.2)]
    have e14 : fX12_readProduct_b14 5000 rEm (fX12_readProduct_h5 5000 rEm f') (nI a) SM = if iv (isS B k s 47) = 0 then some (0, SM) else fX12_readProduct_b23 5000 rEm (fX12_readProduct_h5 5000 rEm f') (nI a) SM := by
      unfold fX12_readProduct_b14
      rw [bnd_t (m_isMarked T F.2)]
      rfl
    have e5 : fX12_readProduct_b5 5000 rEm (fX12_readProduct_h5 5000 rEm f') (nI a) SM = if iv (isS B k s 42) = 0 then fX12_readProduct_b14 5000 rEm (fX12_readProduct_h5 5000 rEm f') (nI a) SM else fX12_readProduct_b23 5000 rEm (fX12_readProduct_h5 5000 rEm f') (nI a) SM := by
      unfold fX12_readProduct_b5
      rw [bnd_t (m_isMarked T F.2)]
    rw [e5, e14, e23]
    cases isS B k s 42 <;> cases isS B k s 47 <;> rfl
  by_cases h7 : 700 ≤ i
  · have k0 := far_k T hi h7
    refine Or.inl ⟨?_, ?_⟩
    · show fX3_readProduct_b8 5000 rEx _ r (nI a) (nI i) S = _
      unfold fX3_readProduct_b8
      have hs : i ≤ 700 := by
        have hk := T.2.2.2.1
        unfold tkK at hk
        have := T.1.1
        omega
      rw [if_pos (show (700 : Int32) ≤ nI i from nI_le (a := 700) h7 (by omega))]
      rfl
    · show fX12_readProduct_h5 5000 rEm (f' + 1) (nI a) SM = _
      rw [hM0, isS_0 k0, isS_0 k0]
      rfl
  · have hX0 : fX3_readProduct_h8 5000 rEx (f + 1) r (nI a) (nI i) S = if iv (isS B k s 42) = 0 then (if iv (isS B k s 47) = 0 then some (0, S) else fX3_readProduct_b64 5000 rEx (fX3_readProduct_h8 5000 rEx f) r (nI a) (nI i) S) else fX3_readProduct_b58 5000 rEx (fX3_readProduct_h8 5000 rEx f) r (nI a) (nI i) S := by
      show fX3_readProduct_b8 5000 rEx (fX3_readProduct_h8 5000 rEx f) r (nI a) (nI i) S = _
      unfold fX3_readProduct_b8
      rw [if_neg (show ¬ (700 : Int32) ≤ nI i from nI_ge (b := 700) (by omega) (by decide))]
      unfold fX3_readProduct_b15
      rw [bnd_t (fine_x F)]
      show fX3_readProduct_b22 5000 rEx (fX3_readProduct_h8 5000 rEx f) r (nI a) (nI i) S = _
      have e46 : fX3_readProduct_b46 5000 rEx (fX3_readProduct_h8 5000 rEx f) r (nI a) (nI i) S = if iv (isS B k s 42) = 0 then fX3_readProduct_b64 5000 rEx (fX3_readProduct_h8 5000 rEx f) r (nI a) (nI i) S else fX3_readProduct_b58 5000 rEx (fX3_readProduct_h8 5000 rEx f) r (nI a) (nI i) S := by
        unfold fX3_readProduct_b46
        rw [bnd_t (x_isAtSign T)]
      have e34 : fX3_readProduct_b34 5000 rEx (fX3_readProduct_h8 5000 rEx f) r (nI a) (nI i) S = if iv (isS B k s 47) = 0 then some (0, S) else fX3_readProduct_b46 5000 rEx (fX3_readProduct_h8 5000 rEx f) r (nI a) (nI i) S := by
        unfold fX3_readProduct_b34
        rw [bnd_t (x_isAtSign T)]
        rfl
      have e22 : fX3_readProduct_b22 5000 rEx (fX3_readProduct_h8 5000 rEx f) r (nI a) (nI i) S = if iv (isS B k s 42) = 0 then fX3_readProduct_b34 5000 rEx (fX3_readProduct_h8 5000 rEx f) r (nI a) (nI i) S else fX3_readProduct_b46 5000 rEx (fX3_readProduct_h8 5000 rEx f) r (nI a) (nI i) S := by
        unfold fX3_readProduct_b22
        rw [bnd_t (x_isAtSign T)]
      rw [e22, e34, e46]
      cases isS B k s 42 <;> cases isS B k s 47 <;> rfl
    cases h1 : isS B k s 42 with
    | true =>
      refine Or.inr ⟨10017, by decide, isS_k h1, ?_, ?_⟩
      · show fX3_readProduct_h8 5000 rEx (f + 1) r (nI a) (nI i) S = _
        rw [hX0, h1, ← nI_1 i]
        rfl
      · show fX12_readProduct_h5 5000 rEm (f' + 1) (nI a) SM = _
        rw [hM0, h1, show sgn 10017 = -22 by decide]
        rfl
    | false =>
      cases h2 : isS B k s 47 with
      | true =>
        refine Or.inr ⟨10018, by decide, isS_k h2, ?_, ?_⟩
        · show fX3_readProduct_h8 5000 rEx (f + 1) r (nI a) (nI i) S = _
          rw [hX0, h1, h2, ← nI_1 i]
          rfl
        · show fX12_readProduct_h5 5000 rEm (f' + 1) (nI a) SM = _
          rw [hM0, h1, h2, show sgn 10018 = -23 by decide]
          rfl
      | false =>
        refine Or.inl ⟨?_, ?_⟩
        · show fX3_readProduct_h8 5000 rEx (f + 1) r (nI a) (nI i) S = _
          rw [hX0, h1, h2]
          rfl
        · show fX12_readProduct_h5 5000 rEm (f' + 1) (nI a) SM = _
          rw [hM0, h1, h2]
          rfl
theorem prod_ft : lpFlt (fun f x S => fX3_readProduct_h8 5000 rEx f r (nI a) x S) (fun f S => fX12_readProduct_h5 5000 rEm f (nI a) S) := by
  intro f f' i S SM h hi
  obtain ⟨f1, f2, f3⟩ := flt_x (N := 5000) h
  refine ⟨?_, ?_⟩
  · show fX3_readProduct_b8 5000 rEx _ r (nI a) (nI i) S = _
    unfold fX3_readProduct_b8
    by_cases z : (700 : Int32) ≤ nI i
    · rw [if_pos z]; rfl
    · rw [if_neg z]
      unfold fX3_readProduct_b15
      rw [bnd_t f1]
      rfl
  · show fX12_readProduct_b5 5000 rEm _ (nI a) SM = _
    unfold fX12_readProduct_b5
    rw [bnd_t (m_isMarked0 f2)]
    show fX12_readProduct_b14 5000 rEm _ (nI a) SM = _
    unfold fX12_readProduct_b14
    rw [bnd_t (m_isMarked0 f2)]
    rfl
theorem prod0 (h : SM 99 27 ≠ 0) : fX12_readProduct 5000 rEm (nI a) SM = some (0, SM) := by
  unfold fX12_readProduct fX12_readProduct_b0
  rw [bnd_t (part0 h)]
  show fX12_readProduct_b5 5000 rEm (fX12_readProduct_h5 5000 rEm 4999) (nI a) SM = _
  unfold fX12_readProduct_b5
  rw [bnd_t (m_isMarked0 h)]
  show fX12_readProduct_b14 5000 rEm _ (nI a) SM = _
  unfold fX12_readProduct_b14
  rw [bnd_t (m_isMarked0 h)]
  rfl
theorem prodLaw (h0 : opLaw B n r w sg d (fX3_readPart 5000 rEx r (nI a)) (fX12_readPart 5000 rEm (nI a))) (h1 : opLaw B n r w sg (d + 1) (fX3_readPart 5000 rEx r (nI a)) (fX12_readPart 5000 rEm (nI a))) : opLaw B n r w sg d (fX3_readProduct 5000 rEx r (nI a)) (fX12_readProduct 5000 rEm (nI a)) := binP h0 h1 prod_st prod_ft
theorem sum_st : lpStep B n r (fX3_readProduct 5000 rEx r (nI a)) (fX12_readProduct 5000 rEm (nI a)) (fun f x S => fX3_readSum_h8 5000 rEx f r (nI a) x S) (fun f S => fX12_readSum_h5 5000 rEm f (nI a) S) := by
  intro f f' i S SM s p k T F hi
  have hM0 : fX12_readSum_h5 5000 rEm (f' + 1) (nI a) SM = if iv (isS B k s 43) = 0 then (if iv (isS B k s 45) = 0 then some (0, SM) else fX12_readSum_b37 5000 rEm (fX12_readSum_h5 5000 rEm f') (nI a) SM) else fX12_readSum_b32 5000 rEm (fX12_readSum_h5 5000 rEm f') (nI a) SM := by
    show fX12_readSum_b5 5000 rEm (fX12_readSum_h5 5000 rEm f') (nI a) SM = _
    have e23 : fX12_readSum_b23 5000 rEm (fX12_readSum_h5 5000 rEm f') (nI a) SM = if iv (isS B k s 43) = 0 then fX12_readSum_b37 5000 rEm (fX12_readSum_h5 5000 rEm f') (nI a) SM else fX12_readSum_b32 5000 rEm (fX12_readSum_h5 5000 rEm f') (nI a) SM := by
      unfold fX12_readSum_b23
      rw [bnd_t (m_isMarked T F.2)]
    have e14 : fX12_readSum_b14 5000 rEm (fX12_readSum_h5 5000 rEm f') (nI a) SM = if iv (isS B k s 45) = 0 then some (0, SM) else fX12_readSum_b23 5000 rEm (fX12_readSum_h5 5000 rEm f') (nI a) SM := by
      unfold fX12_readSum_b14
      rw [bnd_t (m_isMarked T F.2)]
      rfl
    have e5 : fX12_readSum_b5 5000 rEm (fX12_readSum_h5 5000 rEm f') (nI a) SM = if iv (isS B k s 43) = 0 then fX12_readSum_b14 5000 rEm (fX12_readSum_h5 5000 rEm f') (nI a) SM else fX12_readSum_b23 5000 rEm (fX12_readSum_h5 5000 rEm f') (nI a) SM := by
      unfold fX12_readSum_b5
      rw [bnd_t (m_isMarked T F.2)]
    rw [e5, e14, e23]
    cases isS B k s 43 <;> cases isS B k s 45 <;> rfl
  by_cases h7 : 700 ≤ i
  · have k0 := far_k T hi h7
    refine Or.inl ⟨?_, ?_⟩
    · show fX3_readSum_b8 5000 rEx _ r (nI a) (nI i) S = _
      unfold fX3_readSum_b8
      have hs : i ≤ 700 := by
        have hk := T.2.2.2.1
        unfold tkK at hk
        have := T.1.1
        omega
      rw [if_pos (show (700 : Int32) ≤ nI i from nI_le (a := 700) h7 (by omega))]
      rfl
    · show fX12_readSum_h5 5000 rEm (f' + 1) (nI a) SM = _
      rw [hM0, isS_0 k0, isS_0 k0]
      rfl
  · have hX0 : fX3_readSum_h8 5000 rEx (f + 1) r (nI a) (nI i) S = if iv (isS B k s 43) = 0 then (if iv (isS B k s 45) = 0 then some (0, S) else fX3_readSum_b64 5000 rEx (fX3_readSum_h8 5000 rEx f) r (nI a) (nI i) S) else fX3_readSum_b58 5000 rEx (fX3_readSum_h8 5000 rEx f) r (nI a) (nI i) S := by
      show fX3_readSum_b8 5000 rEx (fX3_readSum_h8 5000 rEx f) r (nI a) (nI i) S = _
      unfold fX3_readSum_b8
      rw [if_neg (show ¬ (700 : Int32) ≤ nI i from nI_ge (b := 700) (by omega) (by decide))]
      unfold fX3_readSum_b15
      rw [bnd_t (fine_x F)]
      show fX3_readSum_b22 5000 rEx (fX3_readSum_h8 5000 rEx f) r (nI a) (nI i) S = _
      have e46 : fX3_readSum_b46 5000 rEx (fX3_readSum_h8 5000 rEx f) r (nI a) (nI i) S = if iv (isS B k s 43) = 0 then fX3_readSum_b64 5000 rEx (fX3_readSum_h8 5000 rEx f) r (nI a) (nI i) S else fX3_readSum_b58 5000 rEx (fX3_readSum_h8 5000 rEx f) r (nI a) (nI i) S := by
        unfold fX3_readSum_b46
        rw [bnd_t (x_isAtSign T)]
      have e34 : fX3_readSum_b34 5000 rEx (fX3_readSum_h8 5000 rEx f) r (nI a) (nI i) S = if iv (isS B k s 45) = 0 then some (0, S) else fX3_readSum_b46 5000 rEx (fX3_readSum_h8 5000 rEx f) r (nI a) (nI i) S := by
        unfold fX3_readSum_b34
        rw [bnd_t (x_isAtSign T)]
        rfl
      have e22 : fX3_readSum_b22 5000 rEx (fX3_readSum_h8 5000 rEx f) r (nI a) (nI i) S = if iv (isS B k s 43) = 0 then fX3_readSum_b34 5000 rEx (fX3_readSum_h8 5000 rEx f) r (nI a) (nI i) S else fX3_readSum_b46 5000 rEx (fX3_readSum_h8 5000 rEx f) r (nI a) (nI i) S := by
        unfold fX3_readSum_b22
        rw [bnd_t (x_isAtSign T)]
      rw [e22, e34, e46]
      cases isS B k s 43 <;> cases isS B k s 45 <;> rfl
    cases h1 : isS B k s 43 with
    | true =>
      refine Or.inr ⟨10015, by decide, isS_k h1, ?_, ?_⟩
      · show fX3_readSum_h8 5000 rEx (f + 1) r (nI a) (nI i) S = _
        rw [hX0, h1, ← nI_1 i]
        rfl
      · show fX12_readSum_h5 5000 rEm (f' + 1) (nI a) SM = _
        rw [hM0, h1, show sgn 10015 = -20 by decide]
        rfl
    | false =>
      cases h2 : isS B k s 45 with
      | true =>
        refine Or.inr ⟨10016, by decide, isS_k h2, ?_, ?_⟩
        · show fX3_readSum_h8 5000 rEx (f + 1) r (nI a) (nI i) S = _
          rw [hX0, h1, h2, ← nI_1 i]
          rfl
        · show fX12_readSum_h5 5000 rEm (f' + 1) (nI a) SM = _
          rw [hM0, h1, h2, show sgn 10016 = -21 by decide]
          rfl
      | false =>
        refine Or.inl ⟨?_, ?_⟩
        · show fX3_readSum_h8 5000 rEx (f + 1) r (nI a) (nI i) S = _
          rw [hX0, h1, h2]
          rfl
        · show fX12_readSum_h5 5000 rEm (f' + 1) (nI a) SM = _
          rw [hM0, h1, h2]
          rfl
theorem sum_ft : lpFlt (fun f x S => fX3_readSum_h8 5000 rEx f r (nI a) x S) (fun f S => fX12_readSum_h5 5000 rEm f (nI a) S) := by
  intro f f' i S SM h hi
  obtain ⟨f1, f2, f3⟩ := flt_x (N := 5000) h
  refine ⟨?_, ?_⟩
  · show fX3_readSum_b8 5000 rEx _ r (nI a) (nI i) S = _
    unfold fX3_readSum_b8
    by_cases z : (700 : Int32) ≤ nI i
    · rw [if_pos z]; rfl
    · rw [if_neg z]
      unfold fX3_readSum_b15
      rw [bnd_t f1]
      rfl
  · show fX12_readSum_b5 5000 rEm _ (nI a) SM = _
    unfold fX12_readSum_b5
    rw [bnd_t (m_isMarked0 f2)]
    show fX12_readSum_b14 5000 rEm _ (nI a) SM = _
    unfold fX12_readSum_b14
    rw [bnd_t (m_isMarked0 f2)]
    rfl
theorem sum0 (h : SM 99 27 ≠ 0) : fX12_readSum 5000 rEm (nI a) SM = some (0, SM) := by
  unfold fX12_readSum fX12_readSum_b0
  rw [bnd_t (prod0 h)]
  show fX12_readSum_b5 5000 rEm (fX12_readSum_h5 5000 rEm 4999) (nI a) SM = _
  unfold fX12_readSum_b5
  rw [bnd_t (m_isMarked0 h)]
  show fX12_readSum_b14 5000 rEm _ (nI a) SM = _
  unfold fX12_readSum_b14
  rw [bnd_t (m_isMarked0 h)]
  rfl
theorem sumLaw (h0 : opLaw B n r w sg d (fX3_readProduct 5000 rEx r (nI a)) (fX12_readProduct 5000 rEm (nI a))) (h1 : opLaw B n r w sg (d + 1) (fX3_readProduct 5000 rEx r (nI a)) (fX12_readProduct 5000 rEm (nI a))) : opLaw B n r w sg d (fX3_readSum 5000 rEx r (nI a)) (fX12_readSum 5000 rEm (nI a)) := binP h0 h1 sum_st sum_ft
theorem and_st : lpStep B n r (fX3_readNot 5000 rEx r (nI a)) (fX12_readNot 5000 rEm (nI a)) (fun f x S => fX3_readAnd_h8 5000 rEx f r (nI a) x S) (fun f S => fX12_readAnd_h5 5000 rEm f (nI a) S) := by
  intro f f' i S SM s p k T F hi
  have ew : isW B k s p 41 = isW B k s p 16 := rfl
  have hM0 : fX12_readAnd_h5 5000 rEm (f' + 1) (nI a) SM = if iv (isW B k s p 16) = 0 then some (0, SM) else fX12_readAnd_b15 5000 rEm (fX12_readAnd_h5 5000 rEm f') (nI a) SM := by
    show fX12_readAnd_b5 5000 rEm (fX12_readAnd_h5 5000 rEm f') (nI a) SM = _
    unfold fX12_readAnd_b5
    rw [bnd_t (m_is (w := 41) (by decide) T F.2), ew]
    rfl
  by_cases h7 : 700 ≤ i
  · have k0 := far_k T hi h7
    refine Or.inl ⟨?_, ?_⟩
    · show fX3_readAnd_b8 5000 rEx _ r (nI a) (nI i) S = _
      unfold fX3_readAnd_b8
      have hs : i ≤ 700 := by
        have hk := T.2.2.2.1
        unfold tkK at hk
        have := T.1.1
        omega
      rw [if_pos (show (700 : Int32) ≤ nI i from nI_le (a := 700) h7 (by omega))]
      rfl
    · show fX12_readAnd_h5 5000 rEm (f' + 1) (nI a) SM = _
      rw [hM0, isW_0 k0]
      rfl
  · have hX0 : fX3_readAnd_h8 5000 rEx (f + 1) r (nI a) (nI i) S = if iv (isW B k s p 16) = 0 then some (0, S) else fX3_readAnd_b34 5000 rEx (fX3_readAnd_h8 5000 rEx f) r (nI a) (nI i) S := by
      show fX3_readAnd_b8 5000 rEx (fX3_readAnd_h8 5000 rEx f) r (nI a) (nI i) S = _
      unfold fX3_readAnd_b8
      rw [if_neg (show ¬ (700 : Int32) ≤ nI i from nI_ge (b := 700) (by omega) (by decide))]
      unfold fX3_readAnd_b15
      rw [bnd_t (fine_x F)]
      show fX3_readAnd_b22 5000 rEx (fX3_readAnd_h8 5000 rEx f) r (nI a) (nI i) S = _
      unfold fX3_readAnd_b22
      rw [bnd_t (x_isAtWord (w := 16) (by decide) T)]
      rfl
    cases h1 : isW B k s p 16 with
    | true =>
      refine Or.inr ⟨10012, by decide, isW_k h1, ?_, ?_⟩
      · show fX3_readAnd_h8 5000 rEx (f + 1) r (nI a) (nI i) S = _
        rw [hX0, h1, ← nI_1 i]
        rfl
      · show fX12_readAnd_h5 5000 rEm (f' + 1) (nI a) SM = _
        rw [hM0, h1, show sgn 10012 = -26 by decide]
        rfl
    | false =>
      refine Or.inl ⟨?_, ?_⟩
      · show fX3_readAnd_h8 5000 rEx (f + 1) r (nI a) (nI i) S = _
        rw [hX0, h1]
        rfl
      · show fX12_readAnd_h5 5000 rEm (f' + 1) (nI a) SM = _
        rw [hM0, h1]
        rfl
theorem and_ft : lpFlt (fun f x S => fX3_readAnd_h8 5000 rEx f r (nI a) x S) (fun f S => fX12_readAnd_h5 5000 rEm f (nI a) S) := by
  intro f f' i S SM h hi
  obtain ⟨f1, f2, f3⟩ := flt_x (N := 5000) h
  refine ⟨?_, ?_⟩
  · show fX3_readAnd_b8 5000 rEx _ r (nI a) (nI i) S = _
    unfold fX3_readAnd_b8
    by_cases z : (700 : Int32) ≤ nI i
    · rw [if_pos z]; rfl
    · rw [if_neg z]
      unfold fX3_readAnd_b15
      rw [bnd_t f1]
      rfl
  · show fX12_readAnd_b5 5000 rEm _ (nI a) SM = _
    unfold fX12_readAnd_b5
    rw [bnd_t (m_is0 f2)]
    rfl
theorem or_st : lpStep B n r (fX3_readAnd 5000 rEx r (nI a)) (fX12_readAnd 5000 rEm (nI a)) (fun f x S => fX3_readExpr_h67 5000 rEx f r (nI a) x S) (fun f S => fX12_readExpression_h67 5000 rEm f (nI a) S) := by
  intro f f' i S SM s p k T F hi
  have ew : isW B k s p 42 = isW B k s p 17 := rfl
  have hM0 : fX12_readExpression_h67 5000 rEm (f' + 1) (nI a) SM = if iv (isW B k s p 17) = 0 then some (0, SM) else fX12_readExpression_b77 5000 rEm (fX12_readExpression_h67 5000 rEm f') (nI a) SM := by
    show fX12_readExpression_b67 5000 rEm (fX12_readExpression_h67 5000 rEm f') (nI a) SM = _
    unfold fX12_readExpression_b67
    rw [bnd_t (m_is (w := 42) (by decide) T F.2), ew]
    rfl
  by_cases h7 : 700 ≤ i
  · have k0 := far_k T hi h7
    refine Or.inl ⟨?_, ?_⟩
    · show fX3_readExpr_b67 5000 rEx _ r (nI a) (nI i) S = _
      unfold fX3_readExpr_b67
      have hs : i ≤ 700 := by
        have hk := T.2.2.2.1
        unfold tkK at hk
        have := T.1.1
        omega
      rw [if_pos (show (700 : Int32) ≤ nI i from nI_le (a := 700) h7 (by omega))]
      rfl
    · show fX12_readExpression_h67 5000 rEm (f' + 1) (nI a) SM = _
      rw [hM0, isW_0 k0]
      rfl
  · have hX0 : fX3_readExpr_h67 5000 rEx (f + 1) r (nI a) (nI i) S = if iv (isW B k s p 17) = 0 then some (0, S) else fX3_readExpr_b93 5000 rEx (fX3_readExpr_h67 5000 rEx f) r (nI a) (nI i) S := by
      show fX3_readExpr_b67 5000 rEx (fX3_readExpr_h67 5000 rEx f) r (nI a) (nI i) S = _
      unfold fX3_readExpr_b67
      rw [if_neg (show ¬ (700 : Int32) ≤ nI i from nI_ge (b := 700) (by omega) (by decide))]
      unfold fX3_readExpr_b74
      rw [bnd_t (fine_x F)]
      show fX3_readExpr_b81 5000 rEx (fX3_readExpr_h67 5000 rEx f) r (nI a) (nI i) S = _
      unfold fX3_readExpr_b81
      rw [bnd_t (x_isAtWord (w := 17) (by decide) T)]
      rfl
    cases h1 : isW B k s p 17 with
    | true =>
      refine Or.inr ⟨10011, by decide, isW_k h1, ?_, ?_⟩
      · show fX3_readExpr_h67 5000 rEx (f + 1) r (nI a) (nI i) S = _
        rw [hX0, h1, ← nI_1 i]
        rfl
      · show fX12_readExpression_h67 5000 rEm (f' + 1) (nI a) SM = _
        rw [hM0, h1, show sgn 10011 = -27 by decide]
        rfl
    | false =>
      refine Or.inl ⟨?_, ?_⟩
      · show fX3_readExpr_h67 5000 rEx (f + 1) r (nI a) (nI i) S = _
        rw [hX0, h1]
        rfl
      · show fX12_readExpression_h67 5000 rEm (f' + 1) (nI a) SM = _
        rw [hM0, h1]
        rfl
theorem or_ft : lpFlt (fun f x S => fX3_readExpr_h67 5000 rEx f r (nI a) x S) (fun f S => fX12_readExpression_h67 5000 rEm f (nI a) S) := by
  intro f f' i S SM h hi
  obtain ⟨f1, f2, f3⟩ := flt_x (N := 5000) h
  refine ⟨?_, ?_⟩
  · show fX3_readExpr_b67 5000 rEx _ r (nI a) (nI i) S = _
    unfold fX3_readExpr_b67
    by_cases z : (700 : Int32) ≤ nI i
    · rw [if_pos z]; rfl
    · rw [if_neg z]
      unfold fX3_readExpr_b74
      rw [bnd_t f1]
      rfl
  · show fX12_readExpression_b67 5000 rEm _ (nI a) SM = _
    unfold fX12_readExpression_b67
    rw [bnd_t (m_is0 f2)]
    rfl
end
end

/-! part 96.parse -/
section
section
variable {B : Nat → Nat} {n s p k r w sg c D N a d i : Nat} {S SM : gS}
variable {rEx : Nat → Int32 → gS → Option (Int32 × gS)} {rEm : Int32 → gS → Option (Int32 × gS)}
theorem testLaw {x2 : Int32} (h0 : opLaw B n r w sg d (fX3_readSum 5000 rEx r (nI a)) (fX12_readSum 5000 rEm (nI a))) (h1 : opLaw B n r w sg (d + 1) (fX3_readSum 5000 rEx r (nI a)) (fX12_readSum 5000 rEm (nI a))) (T : tkJ B n s p k S SM) (F : fine S SM) (hK : rlK r w sg S SM) (R : rlJ r w sg c d S SM) (hc : c ≤ s) : ∃ v S' SM', fX3_readTest 5000 rEx r (nI a) S = some (v, S') ∧ fX12_readNot_b40 5000 rEm (nI a) x2 SM = fX12_readNot_b94 5000 rEm x2 SM' ∧ OUT B n r w sg c (d + 1) s S SM S' SM' := by
  obtain ⟨v, S1, v', SM1, b1, b2, u1, u2, s1, p1, k1, c1, T1, c7, r3, h⟩ := h0 S SM c s p k T F hK R hc
  have hK1 := hK.on u1 u2
  have hX0 : ∀ y, fX3_isFine 5000 S1 = some (y, S1) → fX3_readTest 5000 rEx r (nI a) S = if y = 0 then some (0, S1) else fX3_readTest_b23 5000 rEx r (nI a) (iv (isS B k1 s1 60)) S1 := by
    intro y hy
    unfold fX3_readTest fX3_readTest_b0
    rw [bnd_t b1]
    dsimp only
    rw [bnd_t (x_isAtSign T1)]
    dsimp only
    rw [bnd_t hy]
    rfl
  rcases h with ⟨F1, R1, e, e1, e2⟩ | h
  · have n7 := T1.1.1
    have hM0 : fX12_readNot_b40 5000 rEm (nI a) x2 SM = if iv (isS B k1 s1 60) = 0 then fX12_readNot_b54 5000 rEm (nI a) x2 SM1 else fX12_readNot_b63 5000 rEm (nI a) x2 SM1 := by
      unfold fX12_readNot_b40
      rw [bnd_t b2]
      dsimp only
      rw [bnd_t (m_isMarked T1 F1.2)]
    have e63 : fX12_readNot_b63 5000 rEm (nI a) x2 SM1 = if iv (isS B k1 s1 60) = 0 then fX12_readNot_b79 5000 rEm (nI a) x2 (-25) SM1 else fX12_readNot_b79 5000 rEm (nI a) x2 (-24) SM1 := by
      unfold fX12_readNot_b63
      rw [bnd_t (m_isMarked T1 F1.2)]
      rfl
    have e54 : fX12_readNot_b54 5000 rEm (nI a) x2 SM1 = if iv (isS B k1 s1 61) = 0 then fX12_readNot_b94 5000 rEm x2 SM1 else fX12_readNot_b63 5000 rEm (nI a) x2 SM1 := by
      unfold fX12_readNot_b54
      rw [bnd_t (m_isMarked T1 F1.2)]
    have e27 : ∀ y, fX3_readTest_b27 5000 rEx r (nI a) y S1 = if iv (isS B k1 s1 61) = 0 then some (0, S1) else fX3_readTest_b39 5000 rEx r (nI a) y S1 := by
      intro y
      unfold fX3_readTest_b27
      rw [bnd_t (x_isAtSign T1)]
      rfl
    have two : ∀ x : Int32, (10011 ≤ x ∧ x ≤ 10018) → k1 ≠ 0 → ∃ S3 SM3, bnd (fX8_advance 5000 S1) (fun q1 => bnd (fX3_readSum 5000 rEx r (nI a) q1.2) (fun q2 => bnd (fX4_add 5000 r x q2.2) (fun q3 => some ((0 : Int32), q3.2)))) = some (0, S3) ∧ fX12_readNot_b79 5000 rEm (nI a) x2 (sgn x) SM1 = fX12_readNot_b94 5000 rEm x2 SM3 ∧ OUT B n r w sg c (d + 1) s S SM S3 SM3 := by
      intro x hx k0
      obtain ⟨S2, SM2, s2, p2, k2, a1, a2, T2, F2, a5, a6, a7⟩ := j_tok T1 F1 k0
      have o1 : oSame xNu S1 S2 := fun i j z => a6 i j (xNu_f z).1
      have o2 : oSame mNu SM1 SM2 := fun i j z => a7 i j (mNu_f z).1
      have x1 := xNu.ex (r := r) o1
      have y1 := mNu.ex (w := w) (sg := sg) o2
      have hK2 := hK1.on x1 y1
      obtain ⟨v3, S3, v3', SM3, g1, g2, O3⟩ := h1 S2 SM2 c1 s2 p2 k2 T2 F2 hK2 (R1.nu hK1 o1 o2) (by omega)
      obtain ⟨S4, SM4, d1, d2, o3, o4, s4, p4, k4, c4, T4, c47, r4, h4⟩ := P_add (x := x) (s0 := s1) hK2 (by omega) (by omega) (okX_b hx (by omega)) O3
      refine ⟨S4, SM4, ?_, ?_, (u1.tr x1).tr o3, (u2.tr y1).tr o4, s4, p4, k4, c4, T4, c47, r4, ?_⟩
      · rw [bnd_t a1]
        dsimp only
        rw [bnd_t g1]
        dsimp only
        rw [bnd_t d1]
      · unfold fX12_readNot_b79
        rw [bnd_t a2]
        dsimp only
        rw [bnd_t g2]
        dsimp only
        rw [bnd_t d2]
      · rcases h4 with ⟨F4, R4, e', -, e1', e2'⟩ | h4
        · exact Or.inl ⟨F4, R4, e + e', by omega, by omega⟩
        · exact Or.inr h4
    have hXf := hX0 1 (fine_x F1)
    rw [if_neg (by decide)] at hXf
    unfold fX3_readTest_b23 at hXf
    cases q1 : isS B k1 s1 60 with
    | true =>
      obtain ⟨S3, SM3, g1, g2, O⟩ := two 10013 (by decide) (isS_k q1)
      refine ⟨0, S3, SM3, ?_, ?_, O⟩
      · rw [hXf, q1, ← g1]
        rfl
      · rw [hM0, e63, q1, ← g2, show sgn 10013 = -24 by decide]
        rfl
    | false =>
      rw [q1] at hXf hM0 e63
      cases q2 : isS B k1 s1 61 with
      | true =>
        obtain ⟨S3, SM3, g1, g2, O⟩ := two 10014 (by decide) (isS_k q2)
        refine ⟨0, S3, SM3, ?_, ?_, O⟩
        · rw [hXf, e27, q2, ← g1]
          rfl
        · rw [hM0, e54, e63, q2, ← g2, show sgn 10014 = -25 by decide]
          rfl
      | false =>
        refine ⟨0, S1, SM1, ?_, ?_, u1, u2, s1, p1, k1, c1, T1, c7, r3, Or.inl ⟨F1, R1, e, e1, e2⟩⟩
        · rw [hXf, e27, q2]
          rfl
        · rw [hM0, e54, q2]
          rfl
  · obtain ⟨f1, f2, f3⟩ := flt_x (N := 5000) h
    refine ⟨0, S1, SM1, ?_, ?_, u1, u2, s1, p1, k1, c1, T1, c7, r3, Or.inr h⟩
    · rw [hX0 0 f1]
      rfl
    · unfold fX12_readNot_b40
      rw [bnd_t b2]
      dsimp only
      rw [bnd_t (m_isMarked0 f2)]
      show fX12_readNot_b54 5000 rEm (nI a) x2 SM1 = _
      unfold fX12_readNot_b54
      rw [bnd_t (m_isMarked0 f2)]
      rfl
/-- the NOTS are laid behind -/
theorem notAdd {j : Nat} (hj : j ≤ 6) (hD : 1 ≤ D) (hK : rlK r w sg S SM) : ∀ (m i f f' : Nat) (S1 SM1 : gS) (c1 s1 p1 k1 : Nat), i + m = j → m < f → m < f' → oSame (xEx r) S S1 → oSame (mEx w sg) SM SM1 → tkJ B n s1 p1 k1 S1 SM1 → c1 ≤ 700 → S1 r 3 = nI c1 → fine S1 SM1 → rlJ r w sg c1 D S1 SM1 → c1 + m ≤ s1 → ∃ S2 SM2 c2, fX3_readNot_h67 5000 rEx f r (nI j) (nI i) S1 = some (0, S2) ∧ fX12_readNot_h96 5000 rEm f' (nI j) (nI i) SM1 = some (0, SM2) ∧ oSame (xEx r) S S2 ∧ oSame (mEx w sg) SM SM2 ∧ tkJ B n s1 p1 k1 S2 SM2 ∧ c2 ≤ 700 ∧ S2 r 3 = nI c2 ∧ (fine S2 SM2 ∧ rlJ r w sg c2 D S2 SM2 ∧ c2 = c1 + m) := by
  intro m
  induction m with
  | zero =>
    intro i f f' S1 SM1 c1 s1 p1 k1 hi hf hf' o1 o2 T c7 r3 F1 R1 g
    obtain ⟨f, rfl⟩ : ∃ y, f = y + 1 := ⟨f - 1, by omega⟩
    obtain ⟨f', rfl⟩ : ∃ y, f' = y + 1 := ⟨f' - 1, by omega⟩
    refine ⟨S1, SM1, c1, ?_, ?_, o1, o2, T, c7, r3, ?_⟩
    · show fX3_readNot_b67 5000 rEx _ r (nI j) (nI i) S1 = _
      unfold fX3_readNot_b67
      rw [if_pos (nI_le (by omega) (by omega))]
      rfl
    · show fX12_readNot_b96 5000 rEm _ (nI j) (nI i) SM1 = _
      unfold fX12_readNot_b96
      rw [if_pos (nI_le (by omega) (by omega))]
      rfl
    · exact ⟨F1, R1, rfl⟩
  | succ m ih =>
    intro i f f' S1 SM1 c1 s1 p1 k1 hi hf hf' o1 o2 T c7 r3 F1 R1 g
    obtain ⟨f, rfl⟩ : ∃ y, f = y + 1 := ⟨f - 1, by omega⟩
    obtain ⟨f', rfl⟩ : ∃ y, f' = y + 1 := ⟨f' - 1, by omega⟩
    have eX : ∀ S2, fX4_add 5000 r 10010 S1 = some (0, S2) → fX3_readNot_h67 5000 rEx (f + 1) r (nI j) (nI i) S1 = fX3_readNot_h67 5000 rEx f r (nI j) (nI (i + 1)) S2 := by
      intro S2 q
      show fX3_readNot_b67 5000 rEx (fX3_readNot_h67 5000 rEx f) r (nI j) (nI i) S1 = _
      unfold fX3_readNot_b67
      rw [if_neg (nI_ge (by omega) (by omega))]
      unfold fX3_readNot_b73
      rw [bnd_t q, nI_1 i]
    have eM : ∀ SM2, fX12_lay 5000 (-28) SM1 = some (0, SM2) → fX12_readNot_h96 5000 rEm (f' + 1) (nI j) (nI i) SM1 = fX12_readNot_h96 5000 rEm f' (nI j) (nI (i + 1)) SM2 := by
      intro SM2 q
      show fX12_readNot_b96 5000 rEm (fX12_readNot_h96 5000 rEm f') (nI j) (nI i) SM1 = _
      unfold fX12_readNot_b96
      rw [if_neg (nI_ge (by omega) (by omega))]
      unfold fX12_readNot_b101
      rw [bnd_t q, nI_1 i]
    have n7 := T.1.1
    have hk := T.2.2.2.1
    unfold tkK at hk
    obtain ⟨S2, SM2, b1, b2, T2, F2, R2, b6, b7⟩ := j_add (x := 10010) (D' := D) T F1 (hK.on o1 o2) R1 (by omega) ⟨Or.inr (Or.inl ⟨rfl, hD⟩), by rw [if_neg (by decide), if_pos rfl]⟩
    rw [show sgn 10010 = -28 by decide] at b2
    rw [eX S2 b1, eM SM2 b2]
    obtain ⟨S3, SM3, c3, z1, z2, z3, z4, z5, z6, z7, y1, y2, y3⟩ := ih (i + 1) f f' S2 SM2 (c1 + 1) s1 p1 k1 (by omega) (by omega) (by omega) (o1.tr b6) (o2.tr b7) T2 R2.2.2.1 R2.1 F2 R2 (by omega)
    exact ⟨S3, SM3, c3, z1, z2, z3, z4, z5, z6, z7, y1, y2, by omega⟩
theorem notAdd0 {j : Nat} (hj : j ≤ 7) (hK : rlK r w sg S SM) : ∀ (m i f f' : Nat) (S1 SM1 : gS) (c1 s1 p1 k1 : Nat), i + m = j → m < f → m < f' → oSame (xEx r) S S1 → oSame (mEx w sg) SM SM1 → tkJ B n s1 p1 k1 S1 SM1 → c1 ≤ 700 → S1 r 3 = nI c1 → flt S1 SM1 → ∃ S2 SM2 c2, fX3_readNot_h67 5000 rEx f r (nI j) (nI i) S1 = some (0, S2) ∧ fX12_readNot_h96 5000 rEm f' (nI j) (nI i) SM1 = some (0, SM2) ∧ oSame (xEx r) S S2 ∧ oSame (mEx w sg) SM SM2 ∧ tkJ B n s1 p1 k1 S2 SM2 ∧ c2 ≤ 700 ∧ S2 r 3 = nI c2 ∧ flt S2 SM2 := by
  intro m
  induction m with
  | zero =>
    intro i f f' S1 SM1 c1 s1 p1 k1 hi hf hf' o1 o2 T c7 r3 h
    obtain ⟨f, rfl⟩ : ∃ y, f = y + 1 := ⟨f - 1, by omega⟩
    obtain ⟨f', rfl⟩ : ∃ y, f' = y + 1 := ⟨f' - 1, by omega⟩
    refine ⟨S1, SM1, c1, ?_, ?_, o1, o2, T, c7, r3, ?_⟩
    · show fX3_readNot_b67 5000 rEx _ r (nI j) (nI i) S1 = _
      unfold fX3_readNot_b67
      rw [if_pos (nI_le (by omega) (by omega))]
      rfl
    · show fX12_readNot_b96 5000 rEm _ (nI j) (nI i) SM1 = _
      unfold fX12_readNot_b96
      rw [if_pos (nI_le (by omega) (by omega))]
      rfl
    · exact h
  | succ m ih =>
    intro i f f' S1 SM1 c1 s1 p1 k1 hi hf hf' o1 o2 T c7 r3 h
    obtain ⟨f, rfl⟩ : ∃ y, f = y + 1 := ⟨f - 1, by omega⟩
    obtain ⟨f', rfl⟩ : ∃ y, f' = y + 1 := ⟨f' - 1, by omega⟩
    have eX : ∀ S2, fX4_add 5000 r 10010 S1 = some (0, S2) → fX3_readNot_h67 5000 rEx (f + 1) r (nI j) (nI i) S1 = fX3_readNot_h67 5000 rEx f r (nI j) (nI (i + 1)) S2 := by
      intro S2 q
      show fX3_readNot_b67 5000 rEx (fX3_readNot_h67 5000 rEx f) r (nI j) (nI i) S1 = _
      unfold fX3_readNot_b67
      rw [if_neg (nI_ge (by omega) (by omega))]
      unfold fX3_readNot_b73
      rw [bnd_t q, nI_1 i]
    have eM : ∀ SM2, fX12_lay 5000 (-28) SM1 = some (0, SM2) → fX12_readNot_h96 5000 rEm (f' + 1) (nI j) (nI i) SM1 = fX12_readNot_h96 5000 rEm f' (nI j) (nI (i + 1)) SM2 := by
      intro SM2 q
      show fX12_readNot_b96 5000 rEm (fX12_readNot_h96 5000 rEm f') (nI j) (nI i) SM1 = _
      unfold fX12_readNot_b96
      rw [if_neg (nI_ge (by omega) (by omega))]
      unfold fX12_readNot_b101
      rw [bnd_t q, nI_1 i]
    have n7 := T.1.1
    have hk := T.2.2.2.1
    unfold tkK at hk
    obtain ⟨S2, c2, b1, y2, y3, y4⟩ := x_add0 (x := 10010) c7 r3
    have b2 : fX12_lay 5000 (-28) SM1 = some (0, SM1) := m_lay0 (flt_x (N := 5000) h).2.1
    have hr : r = 14 ∨ r = 17 ∨ r = 82 ∨ r = 85 := hK.1
    have h2 : flt S2 SM1 := by
      obtain ⟨q, q1, q2, q3, q4, q5⟩ := h
      exact ⟨q, q1, q2, by rw [y4 1 2 (by omega) (by omega)]; exact q3, q4, by rw [y4 1 3 (by omega) (by omega)]; exact q5⟩
    have T2 : tkJ B n s1 p1 k1 S2 SM1 := T.on (fun j => y4 2 j (by omega) (by omega)) (fun j => y4 3 j (by omega) (by omega)) (fun _ _ _ => rfl) (fun _ _ => rfl)
    rw [eX S2 b1, eM SM1 b2]
    exact ih (i + 1) f f' S2 SM1 c2 s1 p1 k1 (by omega) (by omega) (by omega) (o1.tr (fun i j z => by
      obtain ⟨z1, z2, z3, z4⟩ := xEx_f z
      exact y4 i j z3 z4)) o2 T2 y2 y3 h2
end
end

/-! part 97.parse -/
section
section
variable {B : Nat → Nat} {n s p k r w sg c D N a d i : Nat} {S SM : gS}
variable {rEx : Nat → Int32 → gS → Option (Int32 × gS)} {rEm : Int32 → gS → Option (Int32 × gS)}
theorem lay_bad (h : SM 99 27 ≠ 0) {j : Nat} (hj : j ≤ 7) : ∀ m i f, i + m = j → m < f → fX12_readNot_h96 5000 rEm f (nI j) (nI i) SM = some (0, SM) := by
  intro m
  induction m with
  | zero =>
    intro i f hi hf
    obtain ⟨f, rfl⟩ : ∃ y, f = y + 1 := ⟨f - 1, by omega⟩
    show fX12_readNot_b96 5000 rEm _ (nI j) (nI i) SM = _
    unfold fX12_readNot_b96
    rw [if_pos (nI_le (by omega) (by omega))]
    rfl
  | succ m ih =>
    intro i f hi hf
    obtain ⟨f, rfl⟩ : ∃ y, f = y + 1 := ⟨f - 1, by omega⟩
    show fX12_readNot_b96 5000 rEm (fX12_readNot_h96 5000 rEm f) (nI j) (nI i) SM = _
    unfold fX12_readNot_b96
    rw [if_neg (nI_ge (by omega) (by omega))]
    unfold fX12_readNot_b101
    rw [bnd_t (m_lay0 h), nI_1 i]
    exact ih (i + 1) f (by omega) (by omega)
theorem not_bad (h : SM 99 27 ≠ 0) {j f : Nat} (hj : j ≤ 7) : fX12_readNot_h2 5000 rEm (f + 1) (nI a) (nI j) SM = some (0, SM) := by
  show fX12_readNot_b2 5000 rEm (fX12_readNot_h2 5000 rEm f) (nI a) (nI j) SM = _
  unfold fX12_readNot_b2
  rw [bnd_t (m_is0 h)]
  show fX12_readNot_b40 5000 rEm (nI a) (nI j) SM = _
  unfold fX12_readNot_b40
  rw [bnd_t (sum0 h)]
  dsimp only
  rw [bnd_t (m_isMarked0 h)]
  show fX12_readNot_b54 5000 rEm (nI a) (nI j) SM = _
  unfold fX12_readNot_b54
  rw [bnd_t (m_isMarked0 h)]
  exact lay_bad h hj j 0 5000 (by omega) (by omega)
theorem and_bad (h : SM 99 27 ≠ 0) : fX12_readAnd 5000 rEm (nI a) SM = some (0, SM) := by
  unfold fX12_readAnd fX12_readAnd_b0
  rw [bnd_t (show fX12_readNot 5000 rEm (nI a) SM = some (0, SM) from not_bad (j := 0) (f := 4999) h (by decide))]
  show fX12_readAnd_b5 5000 rEm (fX12_readAnd_h5 5000 rEm 4999) (nI a) SM = _
  unfold fX12_readAnd_b5
  rw [bnd_t (m_is0 h)]
  rfl
theorem b62_bad (h : SM 99 27 ≠ 0) : fX12_readExpression_b62 5000 rEm (nI a) SM = some (0, SM) := by
  unfold fX12_readExpression_b62
  rw [bnd_t (and_bad h)]
  show fX12_readExpression_b67 5000 rEm (fX12_readExpression_h67 5000 rEm 4999) (nI a) SM = _
  unfold fX12_readExpression_b67
  rw [bnd_t (m_is0 h)]
  rfl
theorem notLaw (h0 : opLaw B n r w sg d (fX3_readSum 5000 rEx r (nI a)) (fX12_readSum 5000 rEm (nI a))) (h1 : opLaw B n r w sg (d + 1) (fX3_readSum 5000 rEx r (nI a)) (fX12_readSum 5000 rEm (nI a))) : opLaw B n r w sg d (fX3_readNot 5000 rEx r (nI a)) (fX12_readNot 5000 rEm (nI a)) := by
  intro S SM c s p k T F hK R hc
  have ew : ∀ s p k, isW B k s p 40 = isW B k s p 9 := fun _ _ _ => rfl
  have body : ∀ (j : Nat) (S1 SM1 : gS) (s1 p1 k1 : Nat), j ≤ 6 → oSame (xEx r) S S1 → oSame (mEx w sg) SM SM1 → tkJ B n s1 p1 k1 S1 SM1 → fine S1 SM1 → rlJ r w sg c d S1 SM1 → c + j ≤ s1 → s + j ≤ s1 → PP B n r w sg c (d + 1) s S SM (fX3_readNot_b58 5000 rEx r (nI a) (nI j) S1) (fX12_readNot_b40 5000 rEm (nI a) (nI j) SM1) := by
    intro j S1 SM1 s1 p1 k1 hj o1 o2 T1 F1 R1 g1 g2
    obtain ⟨v, S2, SM2, b1, b2, u1, u2, s2, p2, k2, c2, T2, c7, r3, h⟩ := testLaw (x2 := nI j) h0 h1 T1 F1 (hK.on o1 o2) R1 (by omega)
    have eX : fX3_readNot_b58 5000 rEx r (nI a) (nI j) S1 = fX3_readNot_h67 5000 rEx 5000 r (nI j) (nI 0) S2 := by
      unfold fX3_readNot_b58
      rw [bnd_t b1]
      rfl
    have eM : fX12_readNot_b40 5000 rEm (nI a) (nI j) SM1 = fX12_readNot_h96 5000 rEm 5000 (nI j) (nI 0) SM2 := b2
    rw [eX, eM]
    rcases h with ⟨F2, R2, e, e1, e2⟩ | h
    · obtain ⟨S3, SM3, c3, z1, z2, z3, z4, z5, z6, z7, y1, y2, y3⟩ := notAdd (rEx := rEx) (rEm := rEm) hj (by omega) hK j 0 5000 5000 S2 SM2 c2 s2 p2 k2 (by omega) (by omega) (by omega) (o1.tr u1) (o2.tr u2) T2 c7 r3 F2 R2 (by omega)
      exact ⟨0, S3, 0, SM3, z1, z2, z3, z4, s2, p2, k2, c3, z5, z6, z7, Or.inl ⟨y1, y2, e + j, by omega, by omega⟩⟩
    · obtain ⟨S3, SM3, c3, z1, z2, z3, z4, z5, z6, z7, y1⟩ := notAdd0 (rEx := rEx) (rEm := rEm) (j := j) (by omega) hK j 0 5000 5000 S2 SM2 c2 s2 p2 k2 (by omega) (by omega) (by omega) (o1.tr u1) (o2.tr u2) T2 c7 r3 h
      exact ⟨0, S3, 0, SM3, z1, z2, z3, z4, s2, p2, k2, c3, z5, z6, z7, Or.inr y1⟩
  have b40 : ∀ (j : Nat) (S1 SM1 : gS) (s1 p1 k1 : Nat), tkJ B n s1 p1 k1 S1 SM1 → fX3_readNot_b40 5000 rEx r (nI a) (nI j) S1 = if iv (isW B k1 s1 p1 9) = 0 then fX3_readNot_b58 5000 rEx r (nI a) (nI j) S1 else fX3_readNot_b52 5000 rEx S1 := by
    intro j S1 SM1 s1 p1 k1 T1
    unfold fX3_readNot_b40
    rw [bnd_t (x_isAtWord (w := 9) (by decide) T1)]
  have m2 : ∀ (j f' : Nat) (S1 SM1 : gS) (s1 p1 k1 : Nat), tkJ B n s1 p1 k1 S1 SM1 → fine S1 SM1 → fX12_readNot_h2 5000 rEm (f' + 1) (nI a) (nI j) SM1 = if iv (isW B k1 s1 p1 9) = 0 then fX12_readNot_b40 5000 rEm (nI a) (nI j) SM1 else fX12_readNot_b12 5000 rEm (fX12_readNot_h2 5000 rEm f') (nI a) (nI j) SM1 := by
    intro j f' S1 SM1 s1 p1 k1 T1 F1
    show fX12_readNot_b2 5000 rEm (fX12_readNot_h2 5000 rEm f') (nI a) (nI j) SM1 = _
    unfold fX12_readNot_b2
    rw [bnd_t (m_is (w := 40) (by decide) T1 F1.2), ew]
  have main : ∀ (m j f f' : Nat) (S1 SM1 : gS) (s1 p1 k1 : Nat), j + m = 6 → m < f → m + 1 < f' → oSame (xEx r) S S1 → oSame (mEx w sg) SM SM1 → tkJ B n s1 p1 k1 S1 SM1 → fine S1 SM1 → rlJ r w sg c d S1 SM1 → c + j ≤ s1 → s + j ≤ s1 → PP B n r w sg c (d + 1) s S SM (fX3_readNot_h5 5000 rEx f r (nI a) (nI j) (nI j) S1) (fX12_readNot_h2 5000 rEm f' (nI a) (nI j) SM1) := by
    intro m
    induction m with
    | zero =>
      intro j f f' S1 SM1 s1 p1 k1 hj hf hf' o1 o2 T1 F1 R1 g1 g2
      obtain ⟨f, rfl⟩ : ∃ y, f = y + 1 := ⟨f - 1, by omega⟩
      obtain ⟨f', rfl⟩ : ∃ y, f' = y + 2 := ⟨f' - 2, by omega⟩
      obtain rfl : j = 6 := by omega
      have hX : fX3_readNot_h5 5000 rEx (f + 1) r (nI a) (nI 6) (nI 6) S1 = fX3_readNot_b40 5000 rEx r (nI a) (nI 6) S1 := by
        show fX3_readNot_b5 5000 rEx _ r (nI a) (nI 6) (nI 6) S1 = _
        unfold fX3_readNot_b5
        rw [if_pos (by decide)]
      rw [hX, b40 6 S1 SM1 s1 p1 k1 T1, m2 6 (f' + 1) S1 SM1 s1 p1 k1 T1 F1]
      cases hb : isW B k1 s1 p1 9 with
      | false => exact body 6 S1 SM1 s1 p1 k1 (by omega) o1 o2 T1 F1 R1 g1 g2
      | true =>
        obtain ⟨S', SM', a1, a2, a3, ⟨q1, q2, s2, p2, k2, T2, -⟩⟩ := j_refuse (q := 2) (G := True) (by decide) T1 F1
        have hK1 := hK.on o1 o2
        have f2 := (flt_x (N := 5000) a3).2.1
        refine ⟨0, S', 0, SM', ?_, ?_, o1.tr (xNu.ex q1), o2.tr (mNu.ex q2), s2, p2, k2, c, T2, R1.2.2.1, rlJ.r3 hK1 R1.1 q1, Or.inr a3⟩
        · show fX3_readNot_b52 5000 rEx S1 = _
          unfold fX3_readNot_b52
          rw [bnd_t (show fX3_refuse 5000 2 S1 = _ from a1)]
        · show fX12_readNot_b12 5000 rEm (fX12_readNot_h2 5000 rEm (f' + 1)) (nI a) (nI 6) SM1 = _
          unfold fX12_readNot_b12
          rw [if_pos (by decide)]
          unfold fX12_readNot_b18
          rw [bnd_t (show fX12_wrong 5000 2 SM1 = _ from a2)]
          show fX12_readNot_b23 5000 rEm (fX12_readNot_h2 5000 rEm (f' + 1)) (nI a) (nI 6) SM' = _
          unfold fX12_readNot_b23
          rw [if_neg f2, nI_1 6]
          exact not_bad f2 (by decide)
    | succ m ih =>
      intro j f f' S1 SM1 s1 p1 k1 hj hf hf' o1 o2 T1 F1 R1 g1 g2
      obtain ⟨f, rfl⟩ : ∃ y, f = y + 1 := ⟨f - 1, by omega⟩
      obtain ⟨f', rfl⟩ : ∃ y, f' = y + 1 := ⟨f' - 1, by omega⟩
      have hX : fX3_readNot_h5 5000 rEx (f + 1) r (nI a) (nI j) (nI j) S1 = if iv (isW B k1 s1 p1 9) = 0 then fX3_readNot_b40 5000 rEx r (nI a) (nI j) S1 else fX3_readNot_b24 5000 rEx (fX3_readNot_h5 5000 rEx f) r (nI a) (nI j) (nI j) S1 := by
        show fX3_readNot_b5 5000 rEx (fX3_readNot_h5 5000 rEx f) r (nI a) (nI j) (nI j) S1 = _
        unfold fX3_readNot_b5
        rw [if_neg (show ¬ (6 : Int32) ≤ nI j from nI_ge (b := 6) (by omega) (by decide))]
        unfold fX3_readNot_b12
        rw [bnd_t (x_isAtWord (w := 9) (by decide) T1)]
      rw [hX, b40 j S1 SM1 s1 p1 k1 T1, m2 j f' S1 SM1 s1 p1 k1 T1 F1]
      cases hb : isW B k1 s1 p1 9 with
      | false => exact body j S1 SM1 s1 p1 k1 (by omega) o1 o2 T1 F1 R1 g1 g2
      | true =>
        obtain ⟨S2, SM2, s2, p2, k2, a1, a2, T2, F2, a5, a6, a7⟩ := j_tok T1 F1 (isW_k hb)
        have q1 : oSame xNu S1 S2 := fun i j z => a6 i j (xNu_f z).1
        have q2 : oSame mNu SM1 SM2 := fun i j z => a7 i j (mNu_f z).1
        have hK1 := hK.on o1 o2
        have eX : fX3_readNot_b24 5000 rEx (fX3_readNot_h5 5000 rEx f) r (nI a) (nI j) (nI j) S1 = fX3_readNot_h5 5000 rEx f r (nI a) (nI (j + 1)) (nI (j + 1)) S2 := by
          unfold fX3_readNot_b24
          rw [bnd_t a1, nI_1 j]
        have eM : fX12_readNot_b12 5000 rEm (fX12_readNot_h2 5000 rEm f') (nI a) (nI j) SM1 = fX12_readNot_h2 5000 rEm f' (nI a) (nI (j + 1)) SM2 := by
          unfold fX12_readNot_b12
          rw [if_neg (show ¬ nI j = 6 from fun z => absurd ((nI_eq (b := 6) (by omega) (by omega)).mp z) (by omega))]
          unfold fX12_readNot_b23
          rw [if_pos F1.2, nI_1 j]
          unfold fX12_readNot_b33
          rw [bnd_t a2]
        show PP B n r w sg c (d + 1) s S SM (fX3_readNot_b24 5000 rEx (fX3_readNot_h5 5000 rEx f) r (nI a) (nI j) (nI j) S1) (fX12_readNot_b12 5000 rEm (fX12_readNot_h2 5000 rEm f') (nI a) (nI j) SM1)
        rw [eX, eM]
        exact ih (j + 1) f f' S2 SM2 s2 p2 k2 (by omega) (by omega) (by omega) (o1.tr (xNu.ex q1)) (o2.tr (mNu.ex q2)) T2 F2 (R1.nu hK1 q1 q2) (by omega) (by omega)
  exact main 6 0 5000 5000 S SM s p k (by omega) (by omega) (by omega) oSame.rf oSame.rf T F R hc (Nat.le_refl _)
theorem andLaw (h0 : opLaw B n r w sg d (fX3_readNot 5000 rEx r (nI a)) (fX12_readNot 5000 rEm (nI a))) (h1 : opLaw B n r w sg (d + 1) (fX3_readNot 5000 rEx r (nI a)) (fX12_readNot 5000 rEm (nI a))) : opLaw B n r w sg d (fX3_readAnd 5000 rEx r (nI a)) (fX12_readAnd 5000 rEm (nI a)) := binP h0 h1 and_st and_ft
end
end

/-! part 971.expr -/
section
section
variable {B : Nat → Nat} {n s p k r w sg c D N a d i : Nat} {S SM : gS}
variable {rEx : Nat → Int32 → gS → Option (Int32 × gS)} {rEm : Int32 → gS → Option (Int32 × gS)}
/-- where no EXPR may stand, the reference's pieces meet the same FAULT -/
theorem no_may {SM' : gS} (T : tkJ B n s p k S SM) (F : fine S SM) (k2 : k ≠ 2) (k1 : k ≠ 1) (h40 : isS B k s 40 = false) (hw : fX12_wrong 5000 1 SM = some (0, SM')) (hb : SM' 99 27 ≠ 0) (hE0 : ∀ SM : gS, SM 99 27 ≠ 0 → rEm (nI (a + 1)) SM = some (0, SM)) : fX12_readExpression_b62 5000 rEm (nI a) SM = some (0, SM') := by
  have hk := T.2.2.2.1
  unfold tkK at hk
  have m4 : SM 99 23 = nI k := T.2.2.1.2.2.2.2
  have nk2 : ¬ nI k = 2 := fun z => k2 ((nI_eq (b := 2) (by omega) (by omega)).mp z)
  have nk1 : ¬ nI k = 1 := fun z => k1 ((nI_eq (b := 1) (by omega) (by omega)).mp z)
  have nw : ∀ v, isW B k s p v = false := by
    intro v
    unfold isW isWl
    rw [decide_eq_false k1]
    rfl
  have mk0 : ∀ x, fX12_mark 5000 x SM' = some (0, SM') := by
    intro x
    unfold fX12_mark fX12_mark_b0
    rw [if_neg hb]
    unfold fX12_mark_b20
    rw [if_neg hb]
    rfl
  have mk : fX12_mark 5000 40 SM = some (0, SM') := by
    unfold fX12_mark fX12_mark_b0
    rw [if_pos F.2]
    unfold fX12_mark_b7
    rw [bnd_t (m_isMarked T F.2), h40]
    show fX12_mark_b15 5000 SM = _
    unfold fX12_mark_b15
    rw [bnd_t hw]
    show fX12_mark_b20 5000 SM' = _
    unfold fX12_mark_b20
    rw [if_neg hb]
    rfl
  have e1 : fX12_readPart 5000 rEm (nI a) SM = fX12_readPart 5000 rEm (nI a) SM' := by
    rw [part0 hb]
    unfold fX12_readPart fX12_readPart_b0
    rw [if_pos F.2]
    unfold fX12_readPart_b8 fX12_readPart_b29
    rw [m4, if_neg nk2, if_neg nk1]
    unfold fX12_readPart_b75
    rw [bnd_t mk, nI_1 a]
    dsimp only
    rw [bnd_t (hE0 SM' hb)]
    dsimp only
    rw [bnd_t (mk0 41)]
  have e2 : fX12_readProduct 5000 rEm (nI a) SM = fX12_readProduct 5000 rEm (nI a) SM' := by
    unfold fX12_readProduct fX12_readProduct_b0
    rw [e1]
  have e3 : fX12_readSum 5000 rEm (nI a) SM = fX12_readSum 5000 rEm (nI a) SM' := by
    unfold fX12_readSum fX12_readSum_b0
    rw [e2]
  have e4 : fX12_readNot 5000 rEm (nI a) SM = some (0, SM') := by
    show fX12_readNot_b2 5000 rEm (fX12_readNot_h2 5000 rEm 4999) (nI a) (nI 0) SM = _
    unfold fX12_readNot_b2
    rw [bnd_t (m_is (w := 40) (by decide) T F.2), nw]
    show fX12_readNot_b40 5000 rEm (nI a) (nI 0) SM = _
    have e5 : fX12_readNot_b40 5000 rEm (nI a) (nI 0) SM = fX12_readNot_b40 5000 rEm (nI a) (nI 0) SM' := by
      unfold fX12_readNot_b40
      rw [e3]
    rw [e5]
    have := not_bad (rEm := rEm) (a := a) hb (j := 0) (f := 0) (by decide)
    have h2 : fX12_readNot_h2 5000 rEm (0 + 1) (nI a) (nI 0) SM' = fX12_readNot_b40 5000 rEm (nI a) (nI 0) SM' := by
      show fX12_readNot_b2 5000 rEm (fX12_readNot_h2 5000 rEm 0) (nI a) (nI 0) SM' = _
      unfold fX12_readNot_b2
      rw [bnd_t (m_is0 hb)]
      rfl
    rw [← h2]
    exact this
  have e6 : fX12_readAnd 5000 rEm (nI a) SM = some (0, SM') := by
    unfold fX12_readAnd fX12_readAnd_b0
    rw [bnd_t e4]
    show fX12_readAnd_b5 5000 rEm (fX12_readAnd_h5 5000 rEm 4999) (nI a) SM' = _
    unfold fX12_readAnd_b5
    rw [bnd_t (m_is0 hb)]
    rfl
  unfold fX12_readExpression_b62
  rw [bnd_t e6]
  show fX12_readExpression_b67 5000 rEm (fX12_readExpression_h67 5000 rEm 4999) (nI a) SM' = _
  unfold fX12_readExpression_b67
  rw [bnd_t (m_is0 hb)]
  rfl
noncomputable def mayB (B : Nat → Nat) (k s : Nat) : Bool := decide (k = 2) || (decide (k = 1) || isS B k s 40)
theorem m_expr (T : tkJ B n s p k S SM) (F : fine S SM) : fX12_readExpression 5000 rEm (nI a) SM = if mayB B k s = true then fX12_readExpression_b51 5000 rEm (nI a) SM else fX12_readExpression_b43 5000 rEm (nI a) SM := by
  have hk := T.2.2.2.1
  unfold tkK at hk
  have m4 : SM 99 23 = nI k := T.2.2.1.2.2.2.2
  unfold fX12_readExpression fX12_readExpression_b0
  rw [if_pos F.2]
  unfold fX12_readExpression_b8 mayB
  rw [m4]
  by_cases k2 : k = 2
  · rw [if_pos (show nI k = 2 by rw [k2]; rfl), decide_eq_true k2]
    rfl
  · rw [if_neg (show ¬ nI k = 2 from fun z => k2 ((nI_eq (b := 2) (by omega) (by omega)).mp z)), decide_eq_false k2]
    unfold fX12_readExpression_b16
    rw [m4]
    by_cases k1 : k = 1
    · rw [if_pos (show nI k = 1 by rw [k1]; rfl), decide_eq_true k1]
      rfl
    · rw [if_neg (show ¬ nI k = 1 from fun z => k1 ((nI_eq (b := 1) (by omega) (by omega)).mp z)), decide_eq_false k1]
      unfold fX12_readExpression_b24
      rw [bnd_t (m_isMarked T F.2)]
      cases isS B k s 40 <;> rfl
/-- an EXPR that may stand so deep -/
theorem exprLaw (ha : a ≤ 5) (h0 : opLaw B n r w sg d (fX3_readAnd 5000 rEx r (nI a)) (fX12_readAnd 5000 rEm (nI a))) (h1 : opLaw B n r w sg (d + 1) (fX3_readAnd 5000 rEx r (nI a)) (fX12_readAnd 5000 rEm (nI a))) (hE0 : ∀ SM : gS, SM 99 27 ≠ 0 → rEm (nI (a + 1)) SM = some (0, SM)) : opLaw B n r w sg d (fX3_readExpr 5000 rEx r (nI a)) (fX12_readExpression 5000 rEm (nI a)) := by
  intro S SM c s p k T F hK R hc
  have L := binP h0 h1 or_st or_ft S SM c s p k T F hK R hc
  have hX : fX3_readExpr 5000 rEx r (nI a) S = bnd (fX3_readAnd 5000 rEx r (nI a) S) (fun q1 => fX3_readExpr_h67 5000 rEx 5000 r (nI a) 0 q1.2) := by
    unfold fX3_readExpr fX3_readExpr_b0
    rw [if_pos (show nI a ≤ 5 from nI_le (b := 5) ha (by decide))]
    rfl
  have hM : fX12_readExpression 5000 rEm (nI a) SM = bnd (fX12_readAnd 5000 rEm (nI a) SM) (fun q1 => fX12_readExpression_h67 5000 rEm 5000 (nI a) q1.2) := by
    show _ = fX12_readExpression_b62 5000 rEm (nI a) SM
    rw [m_expr T F]
    cases hm : mayB B k s with
    | true =>
      rw [if_pos rfl]
      unfold fX12_readExpression_b51
      rw [if_neg (show ¬ nI a = 6 from fun z => absurd ((nI_eq (b := 6) (by omega) (by omega)).mp z) (by omega))]
    | false =>
      rw [if_neg (by decide)]
      unfold mayB at hm
      rw [Bool.or_eq_false_iff, Bool.or_eq_false_iff] at hm
      obtain ⟨S', SM', a1, a2, a3, -⟩ := j_wrong (q := 1) (by decide) T F
      have a2 : fX12_wrong 5000 1 SM = some (0, SM') := a2
      have hb := (flt_x (N := 5000) a3).2.1
      rw [no_may T F (of_decide_eq_false hm.1) (of_decide_eq_false hm.2.1) hm.2.2 a2 hb hE0]
      unfold fX12_readExpression_b43
      rw [bnd_t a2]
      exact b62_bad hb
  rw [hX, hM]
  exact L
/-- an EXPR too deep -/
theorem deepLaw : opLaw B n r w sg d (fX3_readExpr 5000 rEx r (nI 6)) (fX12_readExpression 5000 rEm (nI 6)) := by
  intro S SM c s p k T F hK R hc
  have hk := T.2.2.2.1
  unfold tkK at hk
  have e4 : S 2 4 = nI k := T.2.1.2.2.2
  have hX : fX3_readExpr 5000 rEx r (nI 6) S = if mayB B k s = true then fX3_readExpr_b55 5000 rEx 2 S else fX3_readExpr_b55 5000 rEx 1 S := by
    unfold fX3_readExpr fX3_readExpr_b0
    rw [if_neg (by decide)]
    unfold fX3_readExpr_b5 mayB
    rw [e4]
    by_cases k2 : k = 2
    · rw [if_pos (show nI k = 2 by rw [k2]; rfl), decide_eq_true k2]
      rfl
    · rw [if_neg (show ¬ nI k = 2 from fun z => k2 ((nI_eq (b := 2) (by omega) (by omega)).mp z)), decide_eq_false k2]
      unfold fX3_readExpr_b16
      rw [e4]
      by_cases k1 : k = 1
      · rw [if_pos (show nI k = 1 by rw [k1]; rfl), decide_eq_true k1]
        rfl
      · rw [if_neg (show ¬ nI k = 1 from fun z => k1 ((nI_eq (b := 1) (by omega) (by omega)).mp z)), decide_eq_false k1]
        unfold fX3_readExpr_b27
        rw [bnd_t (x_isAtSign T)]
        cases isS B k s 40 <;> rfl
  rw [hX, m_expr T F]
  have go : ∀ q : Nat, 1 ≤ q ∧ q ≤ 5 → ∀ fm, (∀ SM', fX12_wrong 5000 (nI q) SM = some (0, SM') → SM' 99 27 ≠ 0 → fm = some ((0 : Int32), SM')) → PP B n r w sg c (d + 1) s S SM (fX3_readExpr_b55 5000 rEx (nI q) S) fm := by
    intro q hq fm hfm
    obtain ⟨S', SM', a1, a2, a3, ⟨q1, q2, s2, p2, k2, T2, -⟩⟩ := j_refuse (q := q) (G := True) hq T F
    refine ⟨0, S', 0, SM', ?_, hfm SM' a2 (flt_x (N := 5000) a3).2.1, xNu.ex q1, mNu.ex q2, s2, p2, k2, c, T2, R.2.2.1, rlJ.r3 hK R.1 q1, Or.inr a3⟩
    unfold fX3_readExpr_b55
    rw [bnd_t a1]
  cases hm : mayB B k s with
  | true =>
    rw [if_pos rfl, if_pos rfl]
    refine go 2 (by decide) _ (fun SM' a2 hb => ?_)
    unfold fX12_readExpression_b51
    rw [if_pos (by decide)]
    unfold fX12_readExpression_b57
    rw [bnd_t (show fX12_wrong 5000 2 SM = _ from a2)]
    exact b62_bad hb
  | false =>
    rw [if_neg (by decide), if_neg (by decide)]
    refine go 1 (by decide) _ (fun SM' a2 hb => ?_)
    unfold fX12_readExpression_b43
    rw [bnd_t (show fX12_wrong 5000 1 SM = _ from a2)]
    exact b62_bad hb
theorem exAll : ∀ (m a : Nat), a + m = 6 → ∀ d, d ≤ 5 * a → opLaw B n r w sg d (fX3_E 5000 (m + 2) r (nI a)) (fX12_E 5000 (m + 2) (nI a)) := by
  intro m
  induction m with
  | zero =>
    intro a ha d hd
    obtain rfl : a = 6 := by omega
    exact deepLaw
  | succ m ih =>
    intro a ha d hd
    have hE0 : ∀ SM : gS, SM 99 27 ≠ 0 → fX12_E 5000 (m + 2) (nI (a + 1)) SM = some (0, SM) := by
      intro SM hb
      show fX12_readExpression_b0 5000 (fX12_E 5000 (m + 1)) (nI (a + 1)) SM = _
      unfold fX12_readExpression_b0
      rw [if_neg hb]
      rfl
    have pa : ∀ x, x ≤ d + 5 → opLaw B n r w sg x (fX3_readPart 5000 (fX3_E 5000 (m + 2)) r (nI a)) (fX12_readPart 5000 (fX12_E 5000 (m + 2)) (nI a)) := fun x hx => partLaw (by omega) (ih (a + 1) (by omega) x (by omega)) hE0
    have pr : ∀ x, x ≤ d + 4 → opLaw B n r w sg x (fX3_readProduct 5000 (fX3_E 5000 (m + 2)) r (nI a)) (fX12_readProduct 5000 (fX12_E 5000 (m + 2)) (nI a)) := fun x hx => prodLaw (pa x (by omega)) (pa (x + 1) (by omega))
    have su : ∀ x, x ≤ d + 3 → opLaw B n r w sg x (fX3_readSum 5000 (fX3_E 5000 (m + 2)) r (nI a)) (fX12_readSum 5000 (fX12_E 5000 (m + 2)) (nI a)) := fun x hx => sumLaw (pr x (by omega)) (pr (x + 1) (by omega))
    have no : ∀ x, x ≤ d + 2 → opLaw B n r w sg x (fX3_readNot 5000 (fX3_E 5000 (m + 2)) r (nI a)) (fX12_readNot 5000 (fX12_E 5000 (m + 2)) (nI a)) := fun x hx => notLaw (su x (by omega)) (su (x + 1) (by omega))
    have an : ∀ x, x ≤ d + 1 → opLaw B n r w sg x (fX3_readAnd 5000 (fX3_E 5000 (m + 2)) r (nI a)) (fX12_readAnd 5000 (fX12_E 5000 (m + 2)) (nI a)) := fun x hx => andLaw (no x (by omega)) (no (x + 1) (by omega))
    exact exprLaw (by omega) (an d (by omega)) (an (d + 1) (by omega)) hE0
end
end

/-! part 972.lines -/
section
/-! the LINES: the draft of the class against the reference's halves -/
section
variable {B : Nat → Nat} {n s p k N : Nat} {S SM : gS}
/-- behind a FAULT a number is not read: both stay -/
theorem j_num0 {lo hi : Nat} (T : tkJ B n s p k S SM) (h : flt S SM) : fX3_readNumber 5000 (nI lo) (nI hi) S = some (S 2 6, S) ∧ fX12_readNumber 5000 (nI lo) (nI hi) SM = some (0, SM) := by
  obtain ⟨f1, f2, f3⟩ := flt_x (N := 5000) h
  have b39 : fX3_readNumber_b39 5000 S = some (S 2 6, S) := by
    unfold fX3_readNumber_b39
    rw [bnd_t f1]
    rfl
  refine ⟨?_, ?_⟩
  · unfold fX3_readNumber fX3_readNumber_b0
    by_cases q : S 2 4 = 2
    · rw [if_pos q]
      unfold fX3_readNumber_b19
      rw [bnd_t x_isWithin]
      cases wth (S 2 6) (nI lo) (nI hi) with
      | false =>
        show fX3_readNumber_b34 5000 S = _
        unfold fX3_readNumber_b34
        rw [bnd_t (f3 2)]
        exact b39
      | true => exact b39
    · rw [if_neg q]
      unfold fX3_readNumber_b11
      rw [bnd_t (f3 1)]
      exact b39
  · have e : fX12_numberNow 5000 (nI lo) (nI hi) SM = some (0, SM) := by
      unfold fX12_numberNow fX12_numberNow_b0
      rw [if_neg f2]
      rfl
    unfold fX12_readNumber fX12_readNumber_b0
    rw [bnd_t e]
    show (if SM 99 27 = 0 then _ else _) = _
    rw [if_neg f2]
    rfl
/-- one more of some: told in w, at most mo -/
theorem m_another {w c mo : Nat} (hw : w < 6) (hc : c ≤ mo) (hm : mo ≤ 8) (h5 : SM 5 (6 + w) = nI c) : fX12_another 5000 (nI w) (nI mo) SM = if c = mo then bnd (fX12_wrong 5000 2 SM) (fun q1 => fX12_another_b18 5000 q1.2) else fX12_another_b18 5000 SM := by
  unfold fX12_another fX12_another_b0
  rw [show (6 : Int32) = nI 6 from rfl, nI_add, chk_t (inb_t (by omega) (by decide)), nI_clamp (by omega), h5]
  by_cases q : c = mo
  · rw [if_pos q, q, if_pos rfl]
    rfl
  · rw [if_neg q, if_neg (fun z => q ((nI_eq (by omega) (by omega)).mp z))]
/-- the draft: T its cell; g0 GROTTOES, g1 GUILDS, nw wets, b the bound, c1 c2 codes of the rules, tk the grottoes taken -/
def drJ (T g0 g1 nw b c1 c2 tk : Nat) (S SM : gS) : Prop :=
  (T = 72 ∨ T = 4) ∧
  (S T 0 = nI g0 ∧ SM 5 6 = nI g0 ∧ g0 ≤ 8) ∧ (S T 5 = nI g1 ∧ SM 5 7 = nI g1 ∧ g1 ≤ 6) ∧
  (S T 10 = nI nw ∧ SM 5 9 = nI nw ∧ nw ≤ 8 ∧ ∀ i, i < nw → ∃ x : Nat, x ≤ 9 ∧ S (T + 9) i = nI x ∧ SM 14 (8 + i) = nI x) ∧
  (S T 12 = nI b ∧ b ≤ 99 ∧ SM 5 8 = if b = 0 then 70 else nI b) ∧
  (∀ q, q < g0 → (∃ x : Nat, 1 ≤ x ∧ x ≤ 12 ∧ S (T + 1) q = nI x ∧ SM 7 (8 + q) = nI x) ∧ (∃ x : Nat, x ≤ 11 ∧ S (T + 2) q = nI x ∧ SM 8 (8 + q) = nI x) ∧ (∃ x : Nat, x ≤ 20 ∧ S (T + 3) q = nI x ∧ SM 9 (8 + q) = nI x) ∧ (∃ x : Nat, x ≤ 1 ∧ S (T + 4) q = nI x ∧ SM 6 (8 + q) = nI x)) ∧
  (∀ g, g < g1 → (∃ x : Nat, x ≤ 9 ∧ S (T + 5) g = nI x ∧ SM 10 (6 + g) = nI x) ∧ (∃ x : Nat, x ≤ 99 ∧ S (T + 6) g = nI x ∧ SM 11 (6 + g) = nI x) ∧ (∃ x : Nat, x ≤ 999 ∧ S (T + 7) g = nI x ∧ SM 12 (6 + g) = nI x) ∧ S (T + 8) g = SM 13 (6 + g) ∧ (S (T + 8) g = -1 ∨ ∃ q : Nat, q < g0 ∧ S (T + 8) g = nI q)) ∧
  (∀ g g', g < g1 → g' < g1 → S (T + 8) g = S (T + 8) g' → S (T + 8) g ≠ -1 → g = g') ∧
  (SM 99 30 = nI tk ∧ tk < 256 ∧ ∀ q, q < 8 → (tk.testBit q = true ↔ ∃ g, g < g1 ∧ S (T + 8) g = nI q)) ∧
  (∃ D1, rlJ (T + 10) 10 15 c1 D1 S SM ∧ (c1 = 0 ∨ D1 = 1)) ∧ (∃ D2, rlJ (T + 13) 11 16 c2 D2 S SM ∧ (c2 = 0 ∨ D2 = 1)) ∧ (S (T + 10) 2 = 0 ∧ S (T + 13) 2 = 1)
noncomputable def doneV (nw b c1 c2 : Nat) : Int32 := nI ((if nw = 0 then 0 else 1) + (if b = 0 then 0 else 2) + (if c1 = 0 then 0 else 4) + (if c2 = 0 then 0 else 8))
end
end

/-! part 973.rule -/
section
section
variable {B : Nat → Nat} {n s p k N : Nat} {S SM : gS}
/-- a LINE that tells a rule, its word not yet gone over -/
theorem j_rule {r w sg : Nat} {x : Int32} (hr : r = 14 ∨ r = 17 ∨ r = 82 ∨ r = 85) (hw : (w = 10 ∧ sg = 15 ∧ x = 4 ∧ S r 2 = 0) ∨ (w = 11 ∧ sg = 16 ∧ x = 8 ∧ S r 2 = 1)) (T : tkJ B n s p k S SM) (F : fine S SM) (k0 : k ≠ 0) (h3 : S r 3 = nI 0) (h5 : SM 5 w = nI 0) : ∃ S' SM', fX3_readRule 5000 r S = some (0, S') ∧ fX12_sayOnce 5000 x SM = some (0, SM') ∧ oSame (xEx r) S S' ∧ (∀ i j, mEx w sg i j = false → ¬ (i = 99 ∧ (j = 31 ∨ j = 3)) → SM' i j = SM i j) ∧ ∃ s' p' k' c', tkJ B n s' p' k' S' SM' ∧ c' ≤ 700 ∧ S' r 3 = nI c' ∧ ((fine S' SM' ∧ rlJ r w sg c' 1 S' SM' ∧ 1 ≤ c' ∧ s + 1 ≤ s') ∨ flt S' SM') := by
  obtain ⟨S1, SM1, s1, p1, k1, a1, a2, T1, F1, a5, a6, a7⟩ := j_tok T F k0
  obtain ⟨oc, hoc⟩ : ∃ z : Int32, z = if w = 10 then 0 else 1 := ⟨_, rfl⟩
  obtain ⟨SM2, hS2⟩ : ∃ z, z = sU (sU SM1 99 31 oc) 99 3 oc := ⟨_, rfl⟩
  have m2 : ∀ i j, ¬ (i = 99 ∧ (j = 31 ∨ j = 3)) → SM2 i j = SM1 i j := fun i j z => by rw [hS2, sU_n (by omega), sU_n (by omega)]
  have T2 : tkJ B n s1 p1 k1 S1 SM2 := T1.on (fun _ => rfl) (fun _ => rfl) (fun j y1 y2 => m2 99 j (by omega)) (fun j _ => m2 19 j (by omega))
  have F2 : fine S1 SM2 := ⟨F1.1, (m2 99 27 (by omega)).trans F1.2⟩
  have er : ∀ j, S1 r j = S r j := fun j => a6 r j (by rcases hr with z | z | z | z <;> rw [z] <;> rfl)
  have hwd : w = 10 ∨ w = 11 := by omega
  have hK2 : rlK r w sg S1 SM2 := by
    refine ⟨hr, ?_⟩
    rw [er 2]
    rcases hw with ⟨e1, e2, e3, e4⟩ | ⟨e1, e2, e3, e4⟩
    · refine Or.inl ⟨e1, e2, ?_, ?_, e4⟩
      · rw [hS2, sU_n (by omega), sU_ap, if_pos ⟨rfl, rfl⟩, hoc, if_pos e1]
      · rw [hS2, sU_ap, if_pos ⟨rfl, rfl⟩, hoc, if_pos e1]
    · refine Or.inr ⟨e1, e2, ?_, ?_, e4⟩
      · rw [hS2, sU_n (by omega), sU_ap, if_pos ⟨rfl, rfl⟩, hoc, if_neg (by omega)]
      · rw [hS2, sU_ap, if_pos ⟨rfl, rfl⟩, hoc, if_neg (by omega)]
  have R2 : rlJ r w sg 0 0 S1 SM2 := by
    refine ⟨(er 3).trans h3, ?_, by decide, fun i hi => absurd hi (by omega), fun i hi => absurd hi (by omega), rfl⟩
    rw [m2 5 w (by omega), a7 5 w rfl]
    exact h5
  obtain ⟨v, S3, v', SM3, b1, b2, o1, o2, s3, p3, k3, c3, T3, c7, r3, h⟩ := exAll 6 0 rfl 0 (by decide) S1 SM2 0 s1 p1 k1 T2 F2 hK2 R2 (by omega)
  refine ⟨S3, SM3, ?_, ?_, (xTk.ex a6).tr o1, fun i j z1 z2 => ?_, s3, p3, k3, c3, T3, c7, r3, ?_⟩
  · unfold fX3_readRule fX3_readRule_b0
    have e : fX4_isTold 5000 r S = some (0, S) := by
      unfold fX4_isTold fX4_isTold_b0
      rw [h3, if_pos (by decide)]
      rfl
    rw [bnd_t e]
    show fX3_readRule_b13 5000 r S = _
    unfold fX3_readRule_b13
    rw [bnd_t a1]
    dsimp only
    rw [bnd_t (show fX3_E 5000 8 r 0 S1 = some (v, S3) from b1)]
  · have b2' : fX12_E 5000 8 0 SM2 = some (v', SM3) := b2
    unfold fX12_sayOnce fX12_sayOnce_b0
    rw [bnd_t a2]
    dsimp only
    rcases hw with ⟨e1, e2, e3, e4⟩ | ⟨e1, e2, e3, e4⟩
    · rw [e3, if_neg (by decide)]
      unfold fX12_sayOnce_b13
      rw [if_neg (by decide)]
      unfold fX12_sayOnce_b32
      rw [if_pos (by decide)]
      unfold fX12_sayOnce_b38
      rw [if_neg (by decide)]
      unfold fX12_sayOnce_b49 fX12_sayOnce_b50
      dsimp only [lt]
      have ez : sU SM1 99 31 0 99 31 = 0 := by rw [sU_ap, if_pos ⟨rfl, rfl⟩]
      rw [chk_t (by decide), ez, if_pos rfl]
      unfold fX12_sayOnce_b68 fX12_sayOnce_b72
      dsimp only [lt]
      rw [if_pos e1] at hoc
      rw [hoc] at hS2
      rw [chk_t (by decide), if_pos rfl, ← hS2, bnd_t b2']
    · rw [e3, if_neg (by decide)]
      unfold fX12_sayOnce_b13
      rw [if_neg (by decide)]
      unfold fX12_sayOnce_b32
      rw [if_pos (by decide)]
      unfold fX12_sayOnce_b38
      rw [if_pos rfl]
      unfold fX12_sayOnce_b45 fX12_sayOnce_b50
      dsimp only [lt]
      have ez : sU SM1 99 31 1 99 31 = 1 := by rw [sU_ap, if_pos ⟨rfl, rfl⟩]
      rw [chk_t (by decide), ez, if_neg (by decide)]
      unfold fX12_sayOnce_b61 fX12_sayOnce_b72
      dsimp only [lt]
      rw [if_neg (by omega)] at hoc
      rw [hoc] at hS2
      rw [chk_t (by decide), if_neg (by decide), ← hS2, bnd_t b2']
  · rw [o2 i j z1, m2 i j z2]
    exact a7 i j (mEx_f z1).1
  · rcases h with ⟨F3, R3, e, e1, e2⟩ | h
    · refine Or.inl ⟨F3, R3, ?_, by omega⟩
      by_cases z : c3 = 0
      · have := R3.2.2.2.2.2
        rw [z] at this
        exact absurd (show (0 : Nat) = 0 + 1 from this) (by decide)
      · omega
    · exact Or.inr h
end
end

/-! part 974.bound -/
section
theorem xdr_on {S S' : gS} (h : S' 1 1 = S 1 1) : xdr S' = xdr S := by
  unfold xdr
  rw [h]
theorem xdr_cases {S : gS} : xdr S = 72 ∨ xdr S = 4 := by
  unfold xdr
  split <;> omega
section
variable {B : Nat → Nat} {n s p k N : Nat} {S SM : gS}
/-- the LINE of the bound, its word not yet gone over -/
theorem j_bound (T : tkJ B n s p k S SM) (F : fine S SM) (k0 : k ≠ 0) (hb : S (xdr S) 12 = nI 0) : ∃ S' SM', fX3_readBound 5000 S = some (0, S') ∧ fX12_sayOnce 5000 2 SM = some (0, SM') ∧ (∀ i j, xNu i j = false → ¬ (i = xdr S ∧ j = 12) → S' i j = S i j) ∧ (∀ i j, mNu i j = false → ¬ (i = 5 ∧ j = 8) → SM' i j = SM i j) ∧ ∃ s' p' k', tkJ B n s' p' k' S' SM' ∧ ((fine S' SM' ∧ s + 1 ≤ s' ∧ ∃ y, 1 ≤ y ∧ y ≤ 99 ∧ S' (xdr S) 12 = nI y ∧ SM' 5 8 = nI y) ∨ flt S' SM') := by
  have hT := xdr_cases (S := S)
  obtain ⟨S1, SM1, s1, p1, k1, a1, a2, T1, F1, a5, a6, a7⟩ := j_tok T F k0
  have d1 : xdr S1 = xdr S := xdr_on (a6 1 1 rfl)
  obtain ⟨v, S2, v', SM2, b1, b2, ⟨o1, o2, s2, p2, k2, T2, h⟩, -⟩ := j_num (lo := 1) (hi := 99) (by decide) (by decide) T1 F1
  have kx : ∀ i j, ¬ (i = xdr S ∧ j = 12) → sU S2 (xdr S) 12 v i j = S2 i j := fun i j z => sU_n z
  have km : ∀ i j, ¬ (i = 5 ∧ j = 8) → sU SM2 5 8 v' i j = SM2 i j := fun i j z => sU_n z
  refine ⟨sU S2 (xdr S) 12 v, sU SM2 5 8 v', ?_, ?_, fun i j z1 z2 => ?_, fun i j z1 z2 => ?_, s2, p2, k2, T2.on (fun j => kx 2 j (by omega)) (fun j => kx 3 j (by omega)) (fun j _ _ => km 99 j (by omega)) (fun j _ => km 19 j (by omega)), ?_⟩
  · unfold fX3_readBound fX3_readBound_b0
    dsimp only [lt]
    have e : fX9_isBoundTold 5000 (xdr S) S = some (0, S) := by
      unfold fX9_isBoundTold fX9_isBoundTold_b0
      rw [hb, if_pos (by decide)]
      rfl
    rw [bnd_t e]
    show fX3_readBound_b16 5000 S = _
    unfold fX3_readBound_b16
    dsimp only [lt]
    rw [bnd_t a1]
    dsimp only
    rw [d1, bnd_t (show fX3_readNumber 5000 1 99 S1 = _ from b1)]
  · unfold fX12_sayOnce fX12_sayOnce_b0
    rw [bnd_t a2]
    dsimp only
    rw [if_neg (by decide)]
    unfold fX12_sayOnce_b13
    rw [if_pos rfl]
    unfold fX12_sayOnce_b18
    dsimp only [lt]
    rw [bnd_t (show fX12_readNumber 5000 1 99 SM1 = _ from b2)]
    rfl
  · rw [kx i j z2, o1 i j z1]
    exact a6 i j (xNu_f z1).1
  · rw [km i j z2, o2 i j z1]
    exact a7 i j (mNu_f z1).1
  · rcases h with ⟨F2, e2, -, y, y1, y2, rfl, rfl⟩ | h
    · refine Or.inl ⟨⟨?_, ?_⟩, by omega, y, y1, y2, ?_, ?_⟩
      · exact ⟨by rw [kx 1 2 (by omega)]; exact F2.1.1, by rw [kx 1 3 (by omega)]; exact F2.1.2⟩
      · rw [km 99 27 (by omega)]; exact F2.2
      · rw [sU_ap, if_pos ⟨rfl, rfl⟩]
      · rw [sU_ap, if_pos ⟨rfl, rfl⟩]
    · obtain ⟨q, q1, q2, q3, q4, q5⟩ := h
      exact Or.inr ⟨q, q1, q2, by rw [kx 1 2 (by omega)]; exact q3, by rw [km 99 27 (by omega)]; exact q4, by rw [kx 1 3 (by omega), km 99 28 (by omega)]; exact q5⟩
end
end

/-! part 975.put -/
section
section
variable {B : Nat → Nat} {n s p k N : Nat} {S SM : gS}
/-- a number is read, and put down on both sides -/
theorem j_put {lo hi A b M m : Nat} (hl : lo ≤ 9999) (hh : hi ≤ 9999) (hA : A ≠ 1 ∧ A ≠ 2 ∧ A ≠ 3) (hM : M ≠ 99 ∧ M ≠ 19) (T : tkJ B n s p k S SM) (h : fine S SM ∨ flt S SM) : ∃ v S1 v' SM1, fX3_readNumber 5000 (nI lo) (nI hi) S = some (v, S1) ∧ fX12_readNumber 5000 (nI lo) (nI hi) SM = some (v', SM1) ∧ oSame xNu S S1 ∧ oSame mNu SM SM1 ∧ ∃ s' p' k', tkJ B n s' p' k' (sU S1 A b v) (sU SM1 M m v') ∧ ((fine S SM ∧ s + 1 ≤ s' ∧ fine (sU S1 A b v) (sU SM1 M m v') ∧ ∃ y, lo ≤ y ∧ y ≤ hi ∧ v = nI y ∧ v' = nI y) ∨ flt (sU S1 A b v) (sU SM1 M m v')) := by
  have put : ∀ (S1 SM1 : gS) (v v' : Int32) (s' p' k' : Nat), tkJ B n s' p' k' S1 SM1 → tkJ B n s' p' k' (sU S1 A b v) (sU SM1 M m v') ∧ (fine S1 SM1 → fine (sU S1 A b v) (sU SM1 M m v')) ∧ (flt S1 SM1 → flt (sU S1 A b v) (sU SM1 M m v')) := by
    intro S1 SM1 v v' s' p' k' T1
    refine ⟨T1.on (fun j => sU_n (by omega)) (fun j => sU_n (by omega)) (fun j _ _ => sU_n (by omega)) (fun j _ => sU_n (by omega)), fun F => ⟨?_, ?_⟩, fun F => ?_⟩
    · exact ⟨by rw [sU_n (by omega)]; exact F.1.1, by rw [sU_n (by omega)]; exact F.1.2⟩
    · rw [sU_n (by omega)]; exact F.2
    · obtain ⟨q, q1, q2, q3, q4, q5⟩ := F
      exact ⟨q, q1, q2, by rw [sU_n (by omega)]; exact q3, by rw [sU_n (by omega)]; exact q4, by rw [sU_n (by omega), sU_n (by omega)]; exact q5⟩
  rcases h with F | F
  · obtain ⟨v, S1, v', SM1, b1, b2, ⟨o1, o2, s2, p2, k2, T2, h⟩, -⟩ := j_num (lo := lo) (hi := hi) hl hh T F
    obtain ⟨t1, t2, t3⟩ := put S1 SM1 v v' s2 p2 k2 T2
    rcases h with ⟨F2, e2, -, y, y1, y2, y3, y4⟩ | h
    · exact ⟨v, S1, v', SM1, b1, b2, o1, o2, s2, p2, k2, t1, Or.inl ⟨F, e2, t2 F2, y, y1, y2, y3, y4⟩⟩
    · exact ⟨v, S1, v', SM1, b1, b2, o1, o2, s2, p2, k2, t1, Or.inr (t3 h)⟩
  · obtain ⟨b1, b2⟩ := j_num0 (lo := lo) (hi := hi) T F
    obtain ⟨t1, t2, t3⟩ := put S SM (S 2 6) 0 s p k T
    exact ⟨S 2 6, S, 0, SM, b1, b2, oSame.rf, oSame.rf, s, p, k, t1, Or.inr (t3 F)⟩
end
end

/-! part 976.cave -/
section
/-- out of omega's sight -/
def hid (P : Prop) : Prop := P
section
variable {B : Nat → Nat} {n s p k N : Nat} {S SM : gS}
/-- the LINE of a GROTTO, where there is room for one -/
theorem j_cave {x g0 : Nat} (hx : x ≤ 1) (T : tkJ B n s p k S SM) (F : fine S SM) (k0 : k ≠ 0) (hg : g0 < 8) (h0 : S (xdr S) 0 = nI g0) (h5 : SM 5 6 = nI g0) : ∃ S' SM', fX3_readGrotto 5000 (nI x) S = some (0, S') ∧ fX12_sayCave 5000 (nI x) SM = some (0, SM') ∧ (∀ i j, xNu i j = false → ¬ (i = xdr S ∧ j = 0) → ¬ ((i = xdr S + 1 ∨ i = xdr S + 2 ∨ i = xdr S + 3 ∨ i = xdr S + 4) ∧ j = g0) → S' i j = S i j) ∧ (∀ i j, mNu i j = false → ¬ (i = 5 ∧ j = 6) → ¬ ((i = 6 ∨ i = 7 ∨ i = 8 ∨ i = 9) ∧ j = 8 + g0) → SM' i j = SM i j) ∧ ∃ s' p' k', tkJ B n s' p' k' S' SM' ∧ ((fine S' SM' ∧ s + 1 ≤ s' ∧ S' (xdr S) 0 = nI (g0 + 1) ∧ SM' 5 6 = nI (g0 + 1) ∧ (∃ y : Nat, 1 ≤ y ∧ y ≤ 12 ∧ S' (xdr S + 1) g0 = nI y ∧ SM' 7 (8 + g0) = nI y) ∧ (∃ y : Nat, y ≤ 11 ∧ S' (xdr S + 2) g0 = nI y ∧ SM' 8 (8 + g0) = nI y) ∧ (∃ y : Nat, y ≤ 20 ∧ S' (xdr S + 3) g0 = nI y ∧ SM' 9 (8 + g0) = nI y) ∧ S' (xdr S + 4) g0 = nI x ∧ SM' 6 (8 + g0) = nI x) ∨ flt S' SM') := by
  have hT := xdr_cases (S := S)
  obtain ⟨U, hU⟩ : ∃ z, z = xdr S := ⟨_, rfl⟩
  rw [← hU] at hT h0 ⊢
  obtain ⟨S1, SM1, s1, p1, k1, a1, a2, T1, F1, a5, a6, a7⟩ := j_tok T F k0
  obtain ⟨SM2, hM2⟩ : ∃ z, z = sU SM1 6 (8 + g0) (nI x) := ⟨_, rfl⟩
  have T2 : tkJ B n s1 p1 k1 S1 SM2 := T1.on (fun _ => rfl) (fun _ => rfl) (fun j _ _ => by rw [hM2]; exact sU_n (by omega)) (fun j _ => by rw [hM2]; exact sU_n (by omega))
  have F2 : fine S1 SM2 := ⟨F1.1, by rw [hM2, sU_n (by omega)]; exact F1.2⟩
  obtain ⟨v, Sa, v', Ma, b1, b2, oa1, oa2, sa, pa, ka, Ta, ha⟩ := j_put (A := U + 1) (b := g0) (M := 7) (m := 8 + g0) (lo := 1) (hi := 12) (by decide) (by decide) (by omega) (by decide) T2 (Or.inl F2)
  replace ha : hid _ := ha
  obtain ⟨w, Sb, w', Mb, c1, c2, ob1, ob2, sb, pb, kb, Tb, hb⟩ := j_put (A := U + 2) (b := g0) (M := 8) (m := 8 + g0) (lo := 0) (hi := 11) (by decide) (by decide) (by omega) (by decide) Ta (Or.elim (show _ ∨ _ from ha) (fun z => Or.inl z.2.2.1) Or.inr)
  replace hb : hid _ := hb
  obtain ⟨u, Sc, u', Mc, d1, d2, oc1, oc2, sc, pc, kc, Tc, hc⟩ := j_put (A := U + 3) (b := g0) (M := 9) (m := 8 + g0) (lo := 0) (hi := 20) (by decide) (by decide) (by omega) (by decide) Tb (Or.elim (show _ ∨ _ from hb) (fun z => Or.inl z.2.2.1) Or.inr)
  replace hc : hid _ := hc
  have xr : ∀ S', S' 1 1 = S 1 1 → xdr S' = U := fun S' z => by rw [hU]; exact xdr_on z
  have e1 : S1 1 1 = S 1 1 := a6 1 1 rfl
  have ea : sU Sa (U + 1) g0 v 1 1 = S 1 1 := by rw [sU_n (by omega), oa1 1 1 rfl]; exact e1
  have eb : sU Sb (U + 2) g0 w 1 1 = S 1 1 := by rw [sU_n (by omega), ob1 1 1 rfl]; exact ea
  have ec : sU Sc (U + 3) g0 u 1 1 = S 1 1 := by rw [sU_n (by omega), oc1 1 1 rfl]; exact eb
  have fU : ∀ j, xNu U j = false := fun j => by rcases hT with z | z <;> rw [z] <;> rfl
  have q0 : sU Sc (U + 3) g0 u U 0 = nI g0 := by
    rw [sU_n (by omega), oc1 U 0 (fU 0), sU_n (by omega), ob1 U 0 (fU 0), sU_n (by omega), oa1 U 0 (fU 0), a6 U 0 (xNu_f (fU 0)).1]
    exact h0
  have m0 : sU Mc 9 (8 + g0) u' 5 6 = nI g0 := by
    rw [sU_n (by omega), oc2 5 6 rfl, sU_n (by omega), ob2 5 6 rfl, sU_n (by omega), oa2 5 6 rfl, hM2, sU_n (by omega), a7 5 6 rfl]
    exact h5
  have hn : vp_nar .boolean (nI x) = nI x := by
    rcases (show x = 0 ∨ x = 1 by omega) with rfl | rfl <;> rfl
  obtain ⟨S9, h9⟩ : ∃ z, z = sU (sU (sU Sc (U + 3) g0 u) (U + 4) g0 (nI x)) U 0 (nI (g0 + 1)) := ⟨_, rfl⟩
  obtain ⟨M9, hm9⟩ : ∃ z, z = sU (sU Mc 9 (8 + g0) u') 5 6 (nI (g0 + 1)) := ⟨_, rfl⟩
  refine ⟨S9, M9, ?_, ?_, fun i j z1 z2 z3 => ?_, fun i j z1 z2 z3 => ?_, sc, pc, kc, Tc.on (fun j => by rw [h9, sU_n (by omega), sU_n (by omega)]) (fun j => by rw [h9, sU_n (by omega), sU_n (by omega)]) (fun j _ _ => by rw [hm9, sU_n (by omega)]) (fun j _ => by rw [hm9, sU_n (by omega)]), ?_⟩
  · unfold fX3_readGrotto fX3_readGrotto_b0
    dsimp only [lt]
    rw [← hU, h0, if_pos (show nI g0 < 8 from nI_lt (b := 8) hg (by decide))]
    unfold fX3_readGrotto_b20
    dsimp only [lt]
    rw [bnd_t a1]
    dsimp only
    rw [xr S1 e1, bnd_t (show fX3_readNumber 5000 1 12 S1 = _ from b1)]
    dsimp only
    rw [chk_t (inb_t hg (by decide)), nI_clamp (by omega), xr _ ea, bnd_t (show fX3_readNumber 5000 0 11 _ = _ from c1)]
    dsimp only
    rw [chk_t (inb_t hg (by decide)), xr _ eb, bnd_t (show fX3_readNumber 5000 0 20 _ = _ from d1)]
    dsimp only
    rw [chk_t (inb_t hg (by decide)), xr _ ec, chk_t (inb_t hg (by decide)), hn, xr (sU (sU Sc (U + 3) g0 u) (U + 4) g0 (nI x)) (by rw [sU_n (by omega)]; exact ec), show sU (sU Sc (U + 3) g0 u) (U + 4) g0 (nI x) U 0 = nI g0 by rw [sU_n (by omega)]; exact q0, nI_1 g0, h9]
  · have e8 : (8 : Int32) + nI g0 = nI (8 + g0) := by rw [show (8 : Int32) = nI 8 from rfl, nI_add]
    have i16 : inb (nI (8 + g0)) 16 = true := inb_t (by omega) (by decide)
    have c16 : (nI (8 + g0)).toNatClampNeg = 8 + g0 := nI_clamp (by omega)
    have s56 : SM1 5 6 = nI g0 := (a7 5 6 rfl).trans h5
    unfold fX12_sayCave fX12_sayCave_b0
    have an : fX12_another 5000 0 8 SM = some (1, SM1) := by
      rw [show fX12_another 5000 0 8 SM = _ from m_another (w := 0) (c := g0) (mo := 8) (by decide) (by omega) (by decide) h5, if_neg (by omega)]
      unfold fX12_another_b18
      rw [if_pos F.2]
      unfold fX12_another_b27
      rw [bnd_t a2]
    rw [bnd_t an]
    show fX12_sayCave_b11 5000 (nI x) SM1 = _
    unfold fX12_sayCave_b11
    dsimp only [lt]
    rw [s56, e8, chk_t i16, c16, ← hM2, bnd_t (show fX12_readNumber 5000 1 12 SM2 = _ from b2)]
    dsimp only
    rw [chk_t i16, bnd_t (show fX12_readNumber 5000 0 11 _ = _ from c2)]
    dsimp only
    rw [chk_t i16, bnd_t (show fX12_readNumber 5000 0 20 _ = _ from d2)]
    dsimp only
    rw [chk_t i16, m0, nI_1 g0, hm9]
  · rw [h9, sU_n z2, sU_n (by omega), sU_n (by omega), oc1 i j z1, sU_n (by omega), ob1 i j z1, sU_n (by omega), oa1 i j z1]
    exact a6 i j (xNu_f z1).1
  · rw [hm9, sU_n z2, sU_n (by omega), oc2 i j z1, sU_n (by omega), ob2 i j z1, sU_n (by omega), oa2 i j z1, hM2, sU_n (by omega)]
    exact a7 i j (mNu_f z1).1
  · have fx : flt (sU Sc (U + 3) g0 u) (sU Mc 9 (8 + g0) u') → flt S9 M9 := by
      rintro ⟨q, q1, q2, q3, q4, q5⟩
      exact ⟨q, q1, q2, by rw [h9, sU_n (by omega), sU_n (by omega)]; exact q3, by rw [hm9, sU_n (by omega)]; exact q4, by rw [h9, hm9, sU_n (by omega), sU_n (by omega), sU_n (by omega)]; exact q5⟩
    rcases (show _ ∨ _ from hc) with ⟨f1, f2, f3, y, y1, y2, rfl, rfl⟩ | hc'
    · rcases (show _ ∨ _ from hb) with ⟨g1, g2, g3, t, t1, t2, rfl, rfl⟩ | hb'
      · rcases (show _ ∨ _ from ha) with ⟨l1, l2, l3, o, o1, o2, rfl, rfl⟩ | ha'
        · have xU : ∀ i j, (i = U + 1 ∨ i = U + 2 ∨ i = U + 3 ∨ i = U + 4) → xNu i j = false := fun i j z => by rcases hT with y | y <;> rcases z with z | z | z | z <;> rw [z, y] <;> rfl
          refine Or.inl ⟨⟨?_, ?_⟩, by omega, ?_, ?_, ⟨o, o1, o2, ?_, ?_⟩, ⟨t, t2, ?_, ?_⟩, ⟨y, y2, ?_, ?_⟩, ?_, ?_⟩
          · exact ⟨by rw [h9, sU_n (by omega), sU_n (by omega)]; exact f3.1.1, by rw [h9, sU_n (by omega), sU_n (by omega)]; exact f3.1.2⟩
          · rw [hm9, sU_n (by omega)]; exact f3.2
          · rw [h9, sU_ap, if_pos ⟨rfl, rfl⟩]
          · rw [hm9, sU_ap, if_pos ⟨rfl, rfl⟩]
          · rw [h9, sU_n (by omega), sU_n (by omega), sU_n (by omega), oc1 _ _ (xU _ _ (by omega)), sU_n (by omega), ob1 _ _ (xU _ _ (by omega)), sU_ap, if_pos ⟨rfl, rfl⟩]
          · rw [hm9, sU_n (by omega), sU_n (by omega), oc2 7 _ rfl, sU_n (by omega), ob2 7 _ rfl, sU_ap, if_pos ⟨rfl, rfl⟩]
          · rw [h9, sU_n (by omega), sU_n (by omega), sU_n (by omega), oc1 _ _ (xU _ _ (by omega)), sU_ap, if_pos ⟨rfl, rfl⟩]
          · rw [hm9, sU_n (by omega), sU_n (by omega), oc2 8 _ rfl, sU_ap, if_pos ⟨rfl, rfl⟩]
          · rw [h9, sU_n (by omega), sU_n (by omega), sU_ap, if_pos ⟨rfl, rfl⟩]
          · rw [hm9, sU_n (by omega), sU_ap, if_pos ⟨rfl, rfl⟩]
          · rw [h9, sU_n (by omega), sU_ap, if_pos ⟨rfl, rfl⟩]
          · rw [hm9, sU_n (by omega), sU_n (by omega), oc2 6 _ rfl, sU_n (by omega), ob2 6 _ rfl, sU_n (by omega), oa2 6 _ rfl, hM2, sU_ap, if_pos ⟨rfl, rfl⟩]
        · exact absurd g1.2 (flt_x (N := 5000) ha').2.1
      · exact absurd f1.2 (flt_x (N := 5000) hb').2.1
    · exact Or.inr (fx hc')
end
end

/-! part 977.full -/
section
section
variable {B : Nat → Nat} {n s p k N : Nat} {S SM : gS}
/-- too many GROTTOES -/
theorem j_caveF {x x' : Int32} (T : tkJ B n s p k S SM) (F : fine S SM) (h0 : S (xdr S) 0 = nI 8) (h5 : SM 5 6 = nI 8) : ∃ S' SM', fX3_readGrotto 5000 x S = some (0, S') ∧ fX12_sayCave 5000 x' SM = some (0, SM') ∧ flt S' SM' ∧ NUM B n s S SM S' SM' False := by
  obtain ⟨S', SM', a1, a2, a3, a4⟩ := j_refuse (q := 2) (G := False) (by decide) T F
  refine ⟨S', SM', ?_, ?_, a3, a4⟩
  · unfold fX3_readGrotto fX3_readGrotto_b0
    dsimp only [lt]
    rw [h0, if_neg (by decide)]
    unfold fX3_readGrotto_b14
    rw [bnd_t (show fX3_refuse 5000 2 S = _ from a1)]
  · unfold fX12_sayCave fX12_sayCave_b0
    have an : fX12_another 5000 0 8 SM = some (0, SM') := by
      rw [show fX12_another 5000 0 8 SM = _ from m_another (w := 0) (c := 8) (mo := 8) (by decide) (by decide) (by decide) h5, if_pos rfl, bnd_t (show fX12_wrong 5000 2 SM = _ from a2)]
      show fX12_another_b18 5000 SM' = _
      unfold fX12_another_b18
      rw [if_neg (flt_x (N := 5000) a3).2.1]
      rfl
    rw [bnd_t an]
    rfl
/-- too many GUILDS -/
theorem j_guildF (T : tkJ B n s p k S SM) (F : fine S SM) (h0 : S (xdr S) 5 = nI 6) (h5 : SM 5 7 = nI 6) : ∃ S' SM', fX3_readGuild 5000 S = some (0, S') ∧ fX12_sayGuild 5000 SM = some (0, SM') ∧ flt S' SM' ∧ NUM B n s S SM S' SM' False := by
  obtain ⟨S', SM', a1, a2, a3, a4⟩ := j_refuse (q := 2) (G := False) (by decide) T F
  refine ⟨S', SM', ?_, ?_, a3, a4⟩
  · unfold fX3_readGuild fX3_readGuild_b0
    dsimp only [lt]
    rw [h0, if_neg (by decide)]
    unfold fX3_readGuild_b14
    rw [bnd_t (show fX3_refuse 5000 2 S = _ from a1)]
  · unfold fX12_sayGuild fX12_sayGuild_b0
    have an : fX12_another 5000 1 6 SM = some (0, SM') := by
      rw [show fX12_another 5000 1 6 SM = _ from m_another (w := 1) (c := 6) (mo := 6) (by decide) (by decide) (by decide) h5, if_pos rfl, bnd_t (show fX12_wrong 5000 2 SM = _ from a2)]
      show fX12_another_b18 5000 SM' = _
      unfold fX12_another_b18
      rw [if_neg (flt_x (N := 5000) a3).2.1]
      rfl
    rw [bnd_t an]
    rfl
/-- told twice: the class's side (the reference's readLine says wrong 5 itself) -/
theorem x_twice {r : Nat} {S' : gS} (a1 : fX3_refuse 5000 5 S = some (0, S')) : (∀ c, 0 < c → c < 2 ^ 31 → S r 3 = nI c → fX3_readRule 5000 r S = some (0, S')) ∧ (∀ c, 0 < c → c < 2 ^ 31 → S (xdr S) 12 = nI c → fX3_readBound 5000 S = some (0, S')) ∧ (∀ c, 0 < c → c < 2 ^ 31 → S (xdr S) 10 = nI c → fX3_readWet 5000 S = some (0, S')) := by
  refine ⟨fun c h1 h2 h => ?_, fun c h1 h2 h => ?_, fun c h1 h2 h => ?_⟩
  · unfold fX3_readRule fX3_readRule_b0
    have e : fX4_isTold 5000 r S = some (1, S) := by
      unfold fX4_isTold fX4_isTold_b0
      rw [h, if_neg (show ¬ nI c ≤ 0 from nI_ge (a := 0) h1 (by omega))]
      rfl
    rw [bnd_t e]
    show fX3_readRule_b7 5000 S = _
    unfold fX3_readRule_b7
    rw [bnd_t a1]
  · unfold fX3_readBound fX3_readBound_b0
    dsimp only [lt]
    have e : fX9_isBoundTold 5000 (xdr S) S = some (1, S) := by
      unfold fX9_isBoundTold fX9_isBoundTold_b0
      rw [h, if_neg (show ¬ nI c = 0 from fun z => absurd ((nI_eq (b := 0) (by omega) (by omega)).mp z) (by omega))]
      rfl
    rw [bnd_t e]
    show fX3_readBound_b10 5000 S = _
    unfold fX3_readBound_b10
    rw [bnd_t a1]
  · unfold fX3_readWet fX3_readWet_b0
    dsimp only [lt]
    rw [h, if_neg (show ¬ nI c ≤ 0 from nI_ge (a := 0) h1 (by omega))]
    unfold fX3_readWet_b10
    rw [bnd_t a1]
end
end

/-! part 978.wets -/
section
section
variable {B : Nat → Nat} {n s p k N : Nat} {S SM : gS}
/-- the wets, from the second on: i of them are told -/
theorem j_wets {U : Nat} (hU : U = 72 ∨ U = 4) : ∀ (m i f f' : Nat) (S SM : gS) (s p k : Nat), i + m = 8 → m + 1 < f → m + 1 < f' → 1 ≤ i → tkJ B n s p k S SM → fine S SM → xdr S = U → S U 10 = nI i → (∀ q, q < i → ∃ x : Nat, x ≤ 9 ∧ S (U + 9) q = nI x ∧ SM 14 (8 + q) = nI x) → ∃ S' SM', fX3_readWet_h49 5000 f (nI i) S = some (0, S') ∧ fX12_sayWets_h22 5000 f' (nI i) SM = some (0, SM') ∧ (∀ a b, xNu a b = false → ¬ (a = U ∧ b = 10) → a ≠ U + 9 → S' a b = S a b) ∧ (∀ a b, mNu a b = false → ¬ (a = 5 ∧ b = 9) → ¬ (a = 14 ∧ 8 ≤ b) → SM' a b = SM a b) ∧ ∃ s' p' k' c', tkJ B n s' p' k' S' SM' ∧ ((fine S' SM' ∧ s ≤ s' ∧ 1 ≤ c' ∧ c' ≤ 8 ∧ S' U 10 = nI c' ∧ SM' 5 9 = nI c' ∧ ∀ q, q < c' → ∃ x : Nat, x ≤ 9 ∧ S' (U + 9) q = nI x ∧ SM' 14 (8 + q) = nI x) ∨ flt S' SM') := by
  intro m
  have stop : ∀ (i f f' : Nat) (S SM : gS) (s p k : Nat), i ≤ 8 → 1 ≤ i → tkJ B n s p k S SM → fine S SM → S U 10 = nI i → (∀ q, q < i → ∃ x : Nat, x ≤ 9 ∧ S (U + 9) q = nI x ∧ SM 14 (8 + q) = nI x) → k ≠ 2 → ∃ S' SM', fX3_readWet_h49 5000 (f + 1) (nI i) S = some (0, S') ∧ fX12_sayWets_h22 5000 (f' + 1) (nI i) SM = some (0, SM') ∧ (∀ a b, xNu a b = false → ¬ (a = U ∧ b = 10) → a ≠ U + 9 → S' a b = S a b) ∧ (∀ a b, mNu a b = false → ¬ (a = 5 ∧ b = 9) → ¬ (a = 14 ∧ 8 ≤ b) → SM' a b = SM a b) ∧ ∃ s' p' k' c', tkJ B n s' p' k' S' SM' ∧ ((fine S' SM' ∧ s ≤ s' ∧ 1 ≤ c' ∧ c' ≤ 8 ∧ S' U 10 = nI c' ∧ SM' 5 9 = nI c' ∧ ∀ q, q < c' → ∃ x : Nat, x ≤ 9 ∧ S' (U + 9) q = nI x ∧ SM' 14 (8 + q) = nI x) ∨ flt S' SM') := by
    intro i f f' S SM s p k hi h1 T F h10 hq k2
    have hk := T.2.2.2.1
    unfold tkK at hk
    have e4 : ¬ S 2 4 = 2 := by
      rw [T.2.1.2.2.2]
      exact fun z => k2 ((nI_eq (b := 2) (by omega) (by omega)).mp z)
    have m4 : ¬ SM 99 23 = 2 := by
      rw [T.2.2.1.2.2.2.2]
      exact fun z => k2 ((nI_eq (b := 2) (by omega) (by omega)).mp z)
    refine ⟨S, sU SM 5 9 (nI i), ?_, ?_, fun _ _ _ _ _ => rfl, fun a b _ z _ => sU_n z, s, p, k, i, T.on (fun _ => rfl) (fun _ => rfl) (fun j _ _ => sU_n (by omega)) (fun j _ => sU_n (by omega)), Or.inl ⟨⟨F.1, by rw [sU_n (by omega)]; exact F.2⟩, Nat.le_refl _, h1, hi, h10, by rw [sU_ap, if_pos ⟨rfl, rfl⟩], fun q y => by rw [sU_ne (by decide)]; exact hq q y⟩⟩
    · show fX3_readWet_b49 5000 _ (nI i) S = _
      unfold fX3_readWet_b49
      rw [if_neg (show ¬ (8 : Int32) < nI i from nI_nlt (a := 8) (by omega) (by decide))]
      unfold fX3_readWet_b55
      rw [bnd_t (fine_x F)]
      show fX3_readWet_b62 5000 _ (nI i) S = _
      unfold fX3_readWet_b62
      rw [if_neg e4]
      rfl
    · show fX12_sayWets_b22 5000 _ (nI i) SM = _
      unfold fX12_sayWets_b22
      rw [if_pos F.2]
      unfold fX12_sayWets_b29
      rw [if_neg m4]
      rfl
  induction m with
  | zero =>
    intro i f f' S SM s p k hi hf hf' h1 T F hx h10 hq
    obtain ⟨f, rfl⟩ : ∃ y, f = y + 2 := ⟨f - 2, by omega⟩
    obtain ⟨f', rfl⟩ : ∃ y, f' = y + 2 := ⟨f' - 2, by omega⟩
    by_cases k2 : k = 2
    · subst k2
      obtain rfl : i = 8 := by omega
      obtain ⟨S', SM', a1, a2, a3, ⟨o1, o2, s1, p1, k1, T1, -⟩⟩ := j_refuse (q := 2) (G := False) (by decide) T F
      have e4 : S 2 4 = 2 := T.2.1.2.2.2
      have m4 : SM 99 23 = 2 := T.2.2.1.2.2.2.2
      refine ⟨S', SM', ?_, ?_, fun a b z _ _ => o1 a b z, fun a b z _ _ => o2 a b z, s1, p1, k1, 0, T1, Or.inr a3⟩
      · show fX3_readWet_b49 5000 (fX3_readWet_h49 5000 (f + 1)) (nI 8) S = _
        unfold fX3_readWet_b49
        rw [if_neg (by decide)]
        unfold fX3_readWet_b55
        rw [bnd_t (fine_x F)]
        show fX3_readWet_b62 5000 (fX3_readWet_h49 5000 (f + 1)) (nI 8) S = _
        unfold fX3_readWet_b62
        rw [if_pos e4]
        unfold fX3_readWet_b73
        rw [if_pos (by decide)]
        unfold fX3_readWet_b79
        rw [bnd_t (show fX3_refuse 5000 2 S = _ from a1)]
        show fX3_readWet_b49 5000 (fX3_readWet_h49 5000 f) (nI 9) S' = _
        unfold fX3_readWet_b49
        rw [if_pos (by decide)]
        rfl
      · show fX12_sayWets_b22 5000 (fX12_sayWets_h22 5000 (f' + 1)) (nI 8) SM = _
        unfold fX12_sayWets_b22
        rw [if_pos F.2]
        unfold fX12_sayWets_b29
        rw [if_pos m4]
        unfold fX12_sayWets_b37
        rw [if_pos (by decide)]
        unfold fX12_sayWets_b43
        rw [bnd_t (show fX12_wrong 5000 2 SM = _ from a2)]
        show fX12_sayWets_b48 5000 (fX12_sayWets_h22 5000 (f' + 1)) (nI 8) SM' = _
        unfold fX12_sayWets_b48
        rw [bnd_t (show fX12_readNumber 5000 0 9 SM' = _ from (j_num0 (lo := 0) (hi := 9) T1 a3).2)]
        show (if SM' 99 27 = 0 then _ else _) = _
        rw [if_neg (flt_x (N := 5000) a3).2.1]
        rfl
    · exact stop i (f + 1) (f' + 1) S SM s p k (by omega) h1 T F h10 hq k2
  | succ m ih =>
    intro i f f' S SM s p k hi hf hf' h1 T F hx h10 hq
    obtain ⟨f, rfl⟩ : ∃ y, f = y + 2 := ⟨f - 2, by omega⟩
    obtain ⟨f', rfl⟩ : ∃ y, f' = y + 2 := ⟨f' - 2, by omega⟩
    by_cases k2 : k = 2
    · subst k2
      have e4 : S 2 4 = 2 := T.2.1.2.2.2
      have m4 : SM 99 23 = 2 := T.2.2.1.2.2.2.2
      obtain ⟨v, S1, v', SM1, b1, b2, ⟨o1, o2, s2, p2, k2, T2, h⟩, -⟩ := j_num (lo := 0) (hi := 9) (by decide) (by decide) T F
      replace h : hid _ := h
      obtain ⟨S3, hS3⟩ : ∃ z, z = sU (sU S1 (U + 9) i v) U 10 (nI (i + 1)) := ⟨_, rfl⟩
      have fU : xNu U 10 = false := by rcases hU with z | z <;> rw [z] <;> rfl
      have fU9 : ∀ j, xNu (U + 9) j = false := fun j => by rcases hU with z | z <;> rw [z] <;> rfl
      have kx : ∀ a b, ¬ (a = U ∧ b = 10) → ¬ (a = U + 9 ∧ b = i) → S3 a b = S1 a b := fun a b z1 z2 => by rw [hS3, sU_n z1, sU_n z2]
      have ex : fX3_readWet_h49 5000 (f + 2) (nI i) S = fX3_readWet_h49 5000 (f + 1) (nI (i + 1)) S3 := by
        show fX3_readWet_b49 5000 (fX3_readWet_h49 5000 (f + 1)) (nI i) S = _
        unfold fX3_readWet_b49
        rw [if_neg (show ¬ (8 : Int32) < nI i from nI_nlt (a := 8) (by omega) (by decide))]
        unfold fX3_readWet_b55
        rw [bnd_t (fine_x F)]
        show fX3_readWet_b62 5000 (fX3_readWet_h49 5000 (f + 1)) (nI i) S = _
        unfold fX3_readWet_b62
        rw [if_pos e4]
        unfold fX3_readWet_b73
        rw [if_neg (show ¬ nI i = 8 from fun z => absurd ((nI_eq (b := 8) (by omega) (by omega)).mp z) (by omega))]
        unfold fX3_readWet_b87
        dsimp only [lt]
        rw [hx, bnd_t (show fX3_readNumber 5000 0 9 S = _ from b1)]
        dsimp only
        rw [chk_t (inb_t (by omega) (by decide)), nI_clamp (by omega), show xdr (sU S1 (U + 9) i v) = U from (xdr_on (by rw [sU_n (by omega), o1 1 1 rfl])).trans hx, show sU S1 (U + 9) i v U 10 = nI i by rw [sU_n (by omega), o1 U 10 fU]; exact h10, nI_1 i, ← hS3]
        unfold fX3_readWet_b116
        rw [nI_1 i]
      have em : fX12_sayWets_h22 5000 (f' + 2) (nI i) SM = if SM1 99 27 = 0 then fX12_sayWets_b64 5000 (fX12_sayWets_h22 5000 (f' + 1)) (nI i) v' SM1 else fX12_sayWets_b63 5000 SM1 := by
        show fX12_sayWets_b22 5000 (fX12_sayWets_h22 5000 (f' + 1)) (nI i) SM = _
        unfold fX12_sayWets_b22
        rw [if_pos F.2]
        unfold fX12_sayWets_b29
        rw [if_pos m4]
        unfold fX12_sayWets_b37
        rw [if_neg (show ¬ nI i = 8 from fun z => absurd ((nI_eq (b := 8) (by omega) (by omega)).mp z) (by omega))]
        unfold fX12_sayWets_b48
        rw [bnd_t (show fX12_readNumber 5000 0 9 SM = _ from b2)]
      rw [ex, em]
      rcases (show _ ∨ _ from h) with ⟨F2, e2, -, y, y1, y2, y3, y4⟩ | h'
      · rw [if_pos F2.2]
        have e64 : fX12_sayWets_b64 5000 (fX12_sayWets_h22 5000 (f' + 1)) (nI i) v' SM1 = fX12_sayWets_h22 5000 (f' + 1) (nI (i + 1)) (sU SM1 14 (8 + i) v') := by
          unfold fX12_sayWets_b64
          dsimp only [lt]
          rw [show (8 : Int32) = nI 8 from rfl, nI_add, chk_t (inb_t (by omega) (by decide)), nI_clamp (by omega), nI_1 i]
        rw [e64]
        obtain ⟨S', SM', g1, g2, g3, g4, s5, p5, k5, c5, T5, g5⟩ := ih (i + 1) (f + 1) (f' + 1) S3 (sU SM1 14 (8 + i) v') s2 p2 k2 (by omega) (by omega) (by omega) (by omega) (T2.on (fun j => kx 2 j (by omega) (by omega)) (fun j => kx 3 j (by omega) (by omega)) (fun j _ _ => sU_n (by omega)) (fun j _ => sU_n (by omega))) ⟨⟨by rw [kx 1 2 (by omega) (by omega)]; exact F2.1.1, by rw [kx 1 3 (by omega) (by omega)]; exact F2.1.2⟩, by rw [sU_n (by omega)]; exact F2.2⟩ ((xdr_on (by rw [kx 1 1 (by omega) (by omega), o1 1 1 rfl])).trans hx) (by rw [hS3, sU_ap, if_pos ⟨rfl, rfl⟩]) (fun q z => by
          by_cases e : q = i
          · refine ⟨y, y2, ?_, ?_⟩
            · rw [hS3, sU_n (by omega), sU_ap, if_pos ⟨rfl, e⟩]; exact y3
            · rw [sU_ap, if_pos ⟨rfl, by omega⟩]; exact y4
          · rw [kx _ _ (by omega) (by omega), o1 _ _ (fU9 q), sU_n (by omega), o2 14 _ rfl]
            exact hq q (by omega))
        refine ⟨S', SM', g1, g2, fun a b z1 z2 z3 => ?_, fun a b z1 z2 z3 => ?_, s5, p5, k5, c5, T5, ?_⟩
        · rw [g3 a b z1 z2 z3, kx a b z2 (by omega)]; exact o1 a b z1
        · rw [g4 a b z1 z2 z3, sU_n (by omega)]; exact o2 a b z1
        · rcases g5 with ⟨w1, w2, w3⟩ | g5
          · exact Or.inl ⟨w1, by omega, w3⟩
          · exact Or.inr g5
      · rw [if_neg (flt_x (N := 5000) h').2.1]
        have h3 : flt S3 SM1 := by
          obtain ⟨q, q1, q2, q3, q4, q5⟩ := h'
          exact ⟨q, q1, q2, by rw [kx 1 2 (by omega) (by omega)]; exact q3, q4, by rw [kx 1 3 (by omega) (by omega)]; exact q5⟩
        refine ⟨S3, SM1, ?_, rfl, fun a b z1 z2 z3 => ?_, fun a b z1 _ _ => o2 a b z1, s2, p2, k2, 0, T2.on (fun j => kx 2 j (by omega) (by omega)) (fun j => kx 3 j (by omega) (by omega)) (fun _ _ _ => rfl) (fun _ _ => rfl), Or.inr h3⟩
        · show fX3_readWet_b49 5000 _ (nI (i + 1)) S3 = _
          unfold fX3_readWet_b49
          rw [if_neg (show ¬ (8 : Int32) < nI (i + 1) from nI_nlt (a := 8) (by omega) (by decide))]
          unfold fX3_readWet_b55
          rw [bnd_t (flt_x (N := 5000) h3).1]
          rfl
        · rw [kx a b z2 (by omega)]; exact o1 a b z1
    · exact stop i (f + 1) (f' + 1) S SM s p k (by omega) h1 T F h10 hq k2
end
end

/-! part 979.wet -/
section
section
variable {B : Nat → Nat} {n s p k N : Nat} {S SM : gS}
theorem wets_bad (h : SM 99 27 ≠ 0) {f : Nat} : fX12_sayWets_h22 5000 (f + 1) 0 SM = some (0, sU SM 5 9 0) := by
  show fX12_sayWets_b22 5000 _ 0 SM = _
  unfold fX12_sayWets_b22
  rw [if_neg h]
  rfl
theorem wet_flt {S' : gS} (h : flt S' SM) {f : Nat} : fX3_readWet_h49 5000 (f + 1) 1 S' = some (0, S') := by
  show fX3_readWet_b49 5000 _ 1 S' = _
  unfold fX3_readWet_b49
  rw [if_neg (by decide)]
  unfold fX3_readWet_b55
  rw [bnd_t (flt_x (N := 5000) h).1]
  rfl
end
end

/-! part 9790.draft -/
section
/-! the LINES' law: one relation for all of them -/
def dC (U g0 : Nat) (S SM : gS) : Prop := S U 0 = nI g0 ∧ SM 5 6 = nI g0 ∧ g0 ≤ 8 ∧ ∀ q, q < g0 → (∃ x : Nat, 1 ≤ x ∧ x ≤ 12 ∧ S (U + 1) q = nI x ∧ SM 7 (8 + q) = nI x) ∧ (∃ x : Nat, x ≤ 11 ∧ S (U + 2) q = nI x ∧ SM 8 (8 + q) = nI x) ∧ (∃ x : Nat, x ≤ 20 ∧ S (U + 3) q = nI x ∧ SM 9 (8 + q) = nI x) ∧ (∃ x : Nat, x ≤ 1 ∧ S (U + 4) q = nI x ∧ SM 6 (8 + q) = nI x)
def dH (U g0 g : Nat) (S SM : gS) : Prop := (∃ x : Nat, x ≤ 9 ∧ S (U + 5) g = nI x ∧ SM 10 (6 + g) = nI x) ∧ (∃ x : Nat, x ≤ 99 ∧ S (U + 6) g = nI x ∧ SM 11 (6 + g) = nI x) ∧ (∃ x : Nat, x ≤ 999 ∧ S (U + 7) g = nI x ∧ SM 12 (6 + g) = nI x) ∧ S (U + 8) g = SM 13 (6 + g) ∧ (S (U + 8) g = -1 ∨ ∃ q : Nat, q < g0 ∧ S (U + 8) g = nI q)
def dG (U g0 g1 tk : Nat) (S SM : gS) : Prop := S U 5 = nI g1 ∧ SM 5 7 = nI g1 ∧ g1 ≤ 6 ∧ (∀ g, g < g1 → dH U g0 g S SM) ∧ (∀ g g', g < g1 → g' < g1 → S (U + 8) g = S (U + 8) g' → S (U + 8) g ≠ -1 → g = g') ∧ SM 99 30 = nI tk ∧ tk < 256 ∧ ∀ q, q < 8 → (tk.testBit q = true ↔ ∃ g, g < g1 ∧ S (U + 8) g = nI q)
def dW (U nw : Nat) (S SM : gS) : Prop := S U 10 = nI nw ∧ SM 5 9 = nI nw ∧ nw ≤ 8 ∧ ∀ i, i < nw → ∃ x : Nat, x ≤ 9 ∧ S (U + 9) i = nI x ∧ SM 14 (8 + i) = nI x
def dB (U b : Nat) (S SM : gS) : Prop := S U 12 = nI b ∧ b ≤ 99 ∧ SM 5 8 = if b = 0 then 70 else nI b
def dP (r w sg c : Nat) (x : Int32) (S SM : gS) : Prop := (∃ D, rlJ r w sg c D S SM ∧ (c = 0 ∨ D = 1)) ∧ S r 2 = x
def drK (U g0 g1 nw b c1 c2 tk : Nat) (S SM : gS) : Prop := dC U g0 S SM ∧ dG U g0 g1 tk S SM ∧ dW U nw S SM ∧ dB U b S SM ∧ dP (U + 10) 10 15 c1 0 S SM ∧ dP (U + 13) 11 16 c2 1 S SM
theorem xNu_u {i j : Nat} (h1 : i ≠ 1) (h2 : i ≠ 2) : xNu i j = false := by
  unfold xNu xTk
  rw [beq_eq_false_iff_ne.mpr h1, beq_eq_false_iff_ne.mpr h2]
  rfl
theorem mNu_u {i j : Nat} (h : i ≠ 99) : mNu i j = false := by
  unfold mNu mTk
  rw [beq_eq_false_iff_ne.mpr h]
  rfl
section
variable {U g0 g1 nw b c1 c2 tk r w sg c : Nat} {S SM S' SM' : gS}
theorem dC.on (h : dC U g0 S SM) (x0 : S' U 0 = S U 0) (x : ∀ i j, U + 1 ≤ i → i ≤ U + 4 → S' i j = S i j) (m0 : SM' 5 6 = SM 5 6) (m : ∀ i j, 6 ≤ i → i ≤ 9 → SM' i j = SM i j) : dC U g0 S' SM' := by
  obtain ⟨h1, h2, h3, h4⟩ := h
  refine ⟨x0.trans h1, m0.trans h2, h3, fun q hq => ?_⟩
  rw [x (U + 1) q (by omega) (by omega), x (U + 2) q (by omega) (by omega), x (U + 3) q (by omega) (by omega), x (U + 4) q (by omega) (by omega), m 7 _ (by omega) (by omega), m 8 _ (by omega) (by omega), m 9 _ (by omega) (by omega), m 6 _ (by omega) (by omega)]
  exact h4 q hq
theorem dH.on {g : Nat} (h : dH U g0 g S SM) (x : ∀ i, U + 5 ≤ i → i ≤ U + 8 → S' i g = S i g) (m : ∀ i, 10 ≤ i → i ≤ 13 → SM' i (6 + g) = SM i (6 + g)) : dH U g0 g S' SM' := by
  unfold dH at h ⊢
  rw [x (U + 5) (by omega) (by omega), x (U + 6) (by omega) (by omega), x (U + 7) (by omega) (by omega), x (U + 8) (by omega) (by omega), m 10 (by omega) (by omega), m 11 (by omega) (by omega), m 12 (by omega) (by omega), m 13 (by omega) (by omega)]
  exact h
theorem dG.on (h : dG U g0 g1 tk S SM) (x0 : S' U 5 = S U 5) (x : ∀ i j, U + 5 ≤ i → i ≤ U + 8 → S' i j = S i j) (m0 : SM' 5 7 = SM 5 7) (m1 : SM' 99 30 = SM 99 30) (m : ∀ i j, 10 ≤ i → i ≤ 13 → SM' i j = SM i j) : dG U g0 g1 tk S' SM' := by
  obtain ⟨h1, h2, h3, h4, h5, h6, h7, h8⟩ := h
  refine ⟨x0.trans h1, m0.trans h2, h3, fun g hg => (h4 g hg).on (fun i a b => x i g a b) (fun i a b => m i _ a b), fun g g' => ?_, m1.trans h6, h7, fun q hq => ?_⟩
  · rw [x (U + 8) g (by omega) (by omega), x (U + 8) g' (by omega) (by omega)]
    exact h5 g g'
  · rw [show S' (U + 8) = S (U + 8) from funext fun j => x (U + 8) j (by omega) (by omega)]
    exact h8 q hq
theorem dG.more (h : dG U g0 g1 tk S SM) {y : Nat} (hy : g0 ≤ y) : dG U y g1 tk S SM := by
  obtain ⟨h1, h2, h3, h4, h5⟩ := h
  refine ⟨h1, h2, h3, fun g hg => ?_, h5⟩
  obtain ⟨a1, a2, a3, a4, a5⟩ := h4 g hg
  refine ⟨a1, a2, a3, a4, ?_⟩
  rcases a5 with a5 | ⟨q, q1, q2⟩
  · exact Or.inl a5
  · exact Or.inr ⟨q, by omega, q2⟩
theorem dW.on (h : dW U nw S SM) (x0 : S' U 10 = S U 10) (x : ∀ j, S' (U + 9) j = S (U + 9) j) (m0 : SM' 5 9 = SM 5 9) (m : ∀ j, SM' 14 j = SM 14 j) : dW U nw S' SM' := by
  obtain ⟨h1, h2, h3, h4⟩ := h
  refine ⟨x0.trans h1, m0.trans h2, h3, fun q hq => ?_⟩
  rw [x q, m]
  exact h4 q hq
theorem dB.on (h : dB U b S SM) (x0 : S' U 12 = S U 12) (m0 : SM' 5 8 = SM 5 8) : dB U b S' SM' := ⟨x0.trans h.1, h.2.1, m0.trans h.2.2⟩
theorem dP.on {y : Int32} (h : dP r w sg c y S SM) (x : ∀ i j, i = r ∨ i = r + 1 → S' i j = S i j) (m0 : SM' 5 w = SM 5 w) (m : ∀ j, SM' sg j = SM sg j) : dP r w sg c y S' SM' := by
  obtain ⟨⟨D, ⟨h1, h2, h3, h4, h5, h6⟩, h7⟩, h8⟩ := h
  have e : S' (r + 1) = S (r + 1) := funext fun j => x (r + 1) j (Or.inr rfl)
  refine ⟨⟨D, ⟨(x r 3 (Or.inl rfl)).trans h1, m0.trans h2, h3, fun i hi => ?_, by rw [e]; exact h5, by rw [e]; exact h6⟩, h7⟩, (x r 2 (Or.inl rfl)).trans h8⟩
  rw [m, e]
  exact h4 i hi
end
def mBig (i j : Nat) : Prop := (i = 99 ∧ (j = 3 ∨ j = 30 ∨ j = 31)) ∨ (i = 5 ∧ 6 ≤ j) ∨ ((6 ≤ i ∧ i ≤ 9 ∨ i = 14) ∧ 8 ≤ j) ∨ (10 ≤ i ∧ i ≤ 13 ∧ 6 ≤ j) ∨ ((i = 15 ∨ i = 16) ∧ 700 ≤ j)
def fLx (U : Nat) (S S' : gS) : Prop := ∀ i j, xNu i j = false → ¬ (U ≤ i ∧ i < U + 16) ∨ ((i = U + 10 ∨ i = U + 13) ∧ j = 2) → S' i j = S i j
def fLm (SM SM' : gS) : Prop := ∀ i j, mNu i j = false → ¬ mBig i j → SM' i j = SM i j
theorem fLx.tr {U : Nat} {S S' S'' : gS} (h : fLx U S S') (h' : fLx U S' S'') : fLx U S S'' := fun i j a b => (h' i j a b).trans (h i j a b)
theorem fLm.tr {S S' S'' : gS} (h : fLm S S') (h' : fLm S' S'') : fLm S S'' := fun i j a b => (h' i j a b).trans (h i j a b)
/-- behind a LINE -/
def LIN (B : Nat → Nat) (n U s : Nat) (S SM S' SM' : gS) (d : Int32) : Prop := fLx U S S' ∧ fLm SM SM' ∧ ∃ s' p' k', tkJ B n s' p' k' S' SM' ∧ ((fine S' SM' ∧ s + 1 ≤ s' ∧ ∃ g0 g1 nw b c1 c2 tk, drK U g0 g1 nw b c1 c2 tk S' SM' ∧ doneV nw b c1 c2 = d) ∨ flt S' SM')
theorem dnA1 : ∀ a, a < 2 → ∀ b, b < 2 → ∀ c, c < 2 → ∀ d, d < 2 → ((1 : Int32) &&& nI (a + 2 * b + 4 * c + 8 * d)) = nI a ∧ ((2 : Int32) &&& nI (a + 2 * b + 4 * c + 8 * d)) = nI (2 * b) := by decide +kernel
theorem dnA2 : ∀ a, a < 2 → ∀ b, b < 2 → ∀ c, c < 2 → ∀ d, d < 2 → ((4 : Int32) &&& nI (a + 2 * b + 4 * c + 8 * d)) = nI (4 * c) ∧ ((8 : Int32) &&& nI (a + 2 * b + 4 * c + 8 * d)) = nI (8 * d) := by decide +kernel
theorem dnA3 : ∀ a, a < 2 → ∀ b, b < 2 → ∀ c, c < 2 → ∀ d, d < 2 → nI (a + 2 * b + 4 * c + 8 * d) ||| 0 = nI (a + 2 * b + 4 * c + 8 * d) ∧ nI (a + 2 * b + 4 * c + 8 * d) ||| 1 = nI (1 + 2 * b + 4 * c + 8 * d) := by decide +kernel
theorem dnA4 : ∀ a, a < 2 → ∀ b, b < 2 → ∀ c, c < 2 → ∀ d, d < 2 → nI (a + 2 * b + 4 * c + 8 * d) ||| 2 = nI (a + 2 * 1 + 4 * c + 8 * d) ∧ nI (a + 2 * b + 4 * c + 8 * d) ||| 4 = nI (a + 2 * b + 4 * 1 + 8 * d) := by decide +kernel
theorem dnA5 : ∀ a, a < 2 → ∀ b, b < 2 → ∀ c, c < 2 → ∀ d, d < 2 → nI (a + 2 * b + 4 * c + 8 * d) ||| 8 = nI (a + 2 * b + 4 * c + 8 * 1) := by decide +kernel
noncomputable def d01 (x : Nat) : Nat := if x = 0 then 0 else 1
theorem d01_lt (x : Nat) : d01 x < 2 := by
  unfold d01
  split <;> omega
theorem d01_0 (x : Nat) : d01 x = 0 ↔ x = 0 := by
  unfold d01
  split <;> omega
section
variable {nw b c1 c2 : Nat}
theorem dn_e : doneV nw b c1 c2 = nI (d01 nw + 2 * d01 b + 4 * d01 c1 + 8 * d01 c2) := by
  have e : ∀ x m : Nat, (if x = 0 then 0 else m) = m * d01 x := fun x m => by
    unfold d01
    split <;> omega
  unfold doneV
  rw [e nw 1, e b 2, e c1 4, e c2 8, Nat.one_mul]
theorem dnB : ((((1 : Int32) &&& doneV nw b c1 c2) = 0 ↔ nw = 0) ∧ (((2 : Int32) &&& doneV nw b c1 c2) = 0 ↔ b = 0) ∧ (((4 : Int32) &&& doneV nw b c1 c2) = 0 ↔ c1 = 0) ∧ (((8 : Int32) &&& doneV nw b c1 c2) = 0 ↔ c2 = 0)) ∧ doneV nw b c1 c2 ||| 0 = doneV nw b c1 c2 ∧ doneV nw b c1 c2 ||| 1 = doneV 1 b c1 c2 ∧ doneV nw b c1 c2 ||| 2 = doneV nw 1 c1 c2 ∧ doneV nw b c1 c2 ||| 4 = doneV nw b 1 c2 ∧ doneV nw b c1 c2 ||| 8 = doneV nw b c1 1 := by
  rw [dn_e, dn_e, dn_e, dn_e, dn_e]
  have z1 := dnA1 _ (d01_lt nw) _ (d01_lt b) _ (d01_lt c1) _ (d01_lt c2)
  have z2 := dnA2 _ (d01_lt nw) _ (d01_lt b) _ (d01_lt c1) _ (d01_lt c2)
  have z3 := dnA3 _ (d01_lt nw) _ (d01_lt b) _ (d01_lt c1) _ (d01_lt c2)
  have z4 := dnA4 _ (d01_lt nw) _ (d01_lt b) _ (d01_lt c1) _ (d01_lt c2)
  have z5 := dnA5 _ (d01_lt nw) _ (d01_lt b) _ (d01_lt c1) _ (d01_lt c2)
  have e : ∀ (x m : Nat) (v : Int32), v = nI (m * d01 x) → 1 ≤ m → m ≤ 8 → (v = 0 ↔ x = 0) := fun x m v h h1 h8 => by
    have := d01_lt x
    have h9 : m * d01 x ≤ 8 * 1 := Nat.mul_le_mul h8 (by omega)
    rw [h]
    refine (nI_eq (b := 0) (by omega) (by omega)).trans ((Nat.mul_eq_zero).trans ⟨fun z => ?_, fun z => Or.inr ((d01_0 x).mpr z)⟩)
    rcases z with z | z
    · omega
    · exact (d01_0 x).mp z
  exact ⟨⟨e nw 1 _ (by rw [Nat.one_mul]; exact z1.1) (by omega) (by omega), e b 2 _ z1.2 (by omega) (by omega), e c1 4 _ z2.1 (by omega) (by omega), e c2 8 _ z2.2 (by omega) (by omega)⟩, z3.1, z3.2, z4.1, z4.2, z5⟩
theorem dn_1 {x : Nat} (h : 1 ≤ x) : doneV x b c1 c2 = doneV 1 b c1 c2 ∧ doneV nw x c1 c2 = doneV nw 1 c1 c2 ∧ doneV nw b x c2 = doneV nw b 1 c2 ∧ doneV nw b c1 x = doneV nw b c1 1 := by
  unfold doneV
  rw [if_neg (show ¬ x = 0 by omega), if_neg (show ¬ x = 0 by omega), if_neg (show ¬ x = 0 by omega), if_neg (show ¬ x = 0 by omega)]
  exact ⟨rfl, rfl, rfl, rfl⟩
end
end

/-! part 9791.wetline -/
section
section
variable {B : Nat → Nat} {n s p k U g0 g1 nw b c1 c2 tk : Nat} {S SM S' SM' S1 SM1 S2 SM2 : gS}
/-- a draft where only the wets have changed -/
theorem dr_wet {nw' : Nat} (hT : U = 72 ∨ U = 4) (hd : drK U g0 g1 nw b c1 c2 tk S SM) (X : ∀ a b, xNu a b = false → ¬ (a = U ∧ b = 10) → a ≠ U + 9 → S' a b = S a b) (M : ∀ a b, mNu a b = false → ¬ (a = 5 ∧ b = 9) → ¬ (a = 14 ∧ 8 ≤ b) → SM' a b = SM a b) (hw : dW U nw' S' SM') : drK U g0 g1 nw' b c1 c2 tk S' SM' := by
  obtain ⟨d1, d2, d3, d4, d5, d6⟩ := hd
  have X' : ∀ a b, U ≤ a → ¬ (a = U ∧ b = 10) → a ≠ U + 9 → S' a b = S a b := fun a b z1 z2 z3 => X a b (xNu_u (by omega) (by omega)) z2 z3
  have M' : ∀ a b, a ≠ 99 → ¬ (a = 5 ∧ b = 9) → a ≠ 14 → SM' a b = SM a b := fun a b z1 z2 z3 => M a b (mNu_u z1) z2 (by omega)
  exact ⟨d1.on (X' _ _ (by omega) (by omega) (by omega)) (fun i j _ _ => X' i j (by omega) (by omega) (by omega)) (M' _ _ (by omega) (by omega) (by omega)) (fun i j _ _ => M' i j (by omega) (by omega) (by omega)), d2.on (X' _ _ (by omega) (by omega) (by omega)) (fun i j _ _ => X' i j (by omega) (by omega) (by omega)) (M' _ _ (by omega) (by omega) (by omega)) (M 99 30 rfl (by omega) (by omega)) (fun i j _ _ => M' i j (by omega) (by omega) (by omega)), hw, d4.on (X' _ _ (by omega) (by omega) (by omega)) (M' _ _ (by omega) (by omega) (by omega)), d5.on (fun i j _ => X' i j (by omega) (by omega) (by omega)) (M' _ _ (by omega) (by omega) (by omega)) (fun j => M' _ j (by omega) (by omega) (by omega)), d6.on (fun i j _ => X' i j (by omega) (by omega) (by omega)) (M' _ _ (by omega) (by omega) (by omega)) (fun j => M' _ j (by omega) (by omega) (by omega))⟩
theorem wetX {v : Int32} (hT : U = 72 ∨ U = 4) (hU : xdr S = U) (h10 : S U 10 = nI 0) (a1 : fX8_advance 5000 S = some (0, S1)) (hU1 : xdr S1 = U) (b1 : fX3_readNumber 5000 0 9 S1 = some (v, S2)) (hU2 : xdr S2 = U) : fX3_readWet 5000 S = fX3_readWet_h49 5000 5000 1 (sU (sU S2 (U + 9) 0 v) U 10 1) := by
  unfold fX3_readWet fX3_readWet_b0
  dsimp only [lt]
  rw [hU, h10, if_pos (by decide)]
  unfold fX3_readWet_b16
  dsimp only [lt]
  rw [bnd_t a1]
  dsimp only
  rw [hU1, bnd_t b1]
  dsimp only
  rw [show xdr (sU S2 (U + 9) 0 v) = U from (xdr_on (sU_n (by omega))).trans hU2]
theorem wetM (a2 : fX12_stepOn 5000 SM = some (0, SM1)) : fX12_sayOnce 5000 1 SM = bnd (fX12_sayWets 5000 SM1) (fun q1 => some (0, q1.2)) := by
  unfold fX12_sayOnce fX12_sayOnce_b0
  rw [bnd_t a2]
  rfl
theorem wetM0 (F : SM 99 27 = 0) (h2 : SM 99 23 = 2) {v : Int32} (b2 : fX12_readNumber 5000 0 9 SM = some (v, SM2)) : ∀ f, fX12_sayWets_h22 5000 (f + 1) 0 SM = if SM2 99 27 = 0 then fX12_sayWets_h22 5000 f 1 (sU SM2 14 8 v) else some (0, SM2) := by
  intro f
  show fX12_sayWets_b22 5000 (fX12_sayWets_h22 5000 f) 0 SM = _
  unfold fX12_sayWets_b22
  rw [if_pos F]
  unfold fX12_sayWets_b29
  rw [if_pos h2]
  unfold fX12_sayWets_b37
  rw [if_neg (by decide)]
  unfold fX12_sayWets_b48
  rw [bnd_t b2]
  rfl
theorem L_wet (hd : drK U g0 g1 0 b c1 c2 tk S SM) (hU : xdr S = U) (T : tkJ B n s p k S SM) (F : fine S SM) (k0 : k ≠ 0) : ∃ S' SM', fX3_readWet 5000 S = some (0, S') ∧ fX12_sayOnce 5000 1 SM = some (0, SM') ∧ LIN B n U s S SM S' SM' (doneV 1 b c1 c2) := by
  have hT := xdr_cases (S := S)
  rw [hU] at hT
  obtain ⟨S1, SM1, s1, p1, k1, a1, a2, T1, F1, a5, a6, a7⟩ := j_tok T F k0
  have hU1 : xdr S1 = U := (xdr_on (a6 1 1 rfl)).trans hU
  have h10 := hd.2.2.1.1
  have fin : ∀ (S2 SM2 S' SM' : gS), oSame xNu S1 S2 → oSame mNu SM1 SM2 → (∀ a b, xNu a b = false → ¬ (a = U ∧ b = 10) → a ≠ U + 9 → S' a b = S2 a b) → (∀ a b, mNu a b = false → ¬ (a = 5 ∧ b = 9) → ¬ (a = 14 ∧ 8 ≤ b) → SM' a b = SM2 a b) → (∀ a b, xNu a b = false → ¬ (a = U ∧ b = 10) → a ≠ U + 9 → S' a b = S a b) ∧ (∀ a b, mNu a b = false → ¬ (a = 5 ∧ b = 9) → ¬ (a = 14 ∧ 8 ≤ b) → SM' a b = SM a b) ∧ fLx U S S' ∧ fLm SM SM' := by
    intro S2 SM2 S' SM' o1 o2 g1 g2
    have e1 : ∀ a b, xNu a b = false → ¬ (a = U ∧ b = 10) → a ≠ U + 9 → S' a b = S a b := fun a b z1 z2 z3 => by
      rw [g1 a b z1 z2 z3, o1 a b z1]
      exact a6 a b (xNu_f z1).1
    have e2 : ∀ a b, mNu a b = false → ¬ (a = 5 ∧ b = 9) → ¬ (a = 14 ∧ 8 ≤ b) → SM' a b = SM a b := fun a b z1 z2 z3 => by
      rw [g2 a b z1 z2 z3, o2 a b z1]
      exact a7 a b (mNu_f z1).1
    refine ⟨e1, e2, fun i j z1 z2 => e1 i j z1 (by omega) (by omega), fun i j z1 z2 => e2 i j z1 ?_ ?_⟩
    · intro z
      exact z2 (Or.inr (Or.inl (by omega)))
    · intro z
      exact z2 (Or.inr (Or.inr (Or.inl (by omega))))
  by_cases q2 : k1 = 2
  · subst q2
    obtain ⟨v, S2, v', SM2, b1, b2, ⟨o1, o2, s2, p2, k2, T2, h⟩, -⟩ := j_num (lo := 0) (hi := 9) (by decide) (by decide) T1 F1
    replace h : hid _ := h
    have hU2 : xdr S2 = U := (xdr_on (o1 1 1 rfl)).trans hU1
    have eX := wetX hT hU h10 a1 hU1 (show fX3_readNumber 5000 0 9 S1 = _ from b1) hU2
    have eM : fX12_sayWets 5000 SM1 = if SM2 99 27 = 0 then fX12_sayWets_h22 5000 4999 1 (sU SM2 14 8 v') else some (0, SM2) := by
      unfold fX12_sayWets fX12_sayWets_b0
      rw [if_pos F1.2]
      unfold fX12_sayWets_b9
      rw [if_pos (show SM1 99 23 = 2 from T1.2.2.1.2.2.2.2)]
      exact wetM0 F1.2 T1.2.2.1.2.2.2.2 (show fX12_readNumber 5000 0 9 SM1 = _ from b2) 4999
    obtain ⟨S4, h4⟩ : ∃ z, z = sU (sU S2 (U + 9) 0 v) U 10 1 := ⟨_, rfl⟩
    rw [← h4] at eX
    have kx : ∀ a b, ¬ (a = U ∧ b = 10) → ¬ (a = U + 9 ∧ b = 0) → S4 a b = S2 a b := fun a b z1 z2 => by rw [h4, sU_n z1, sU_n z2]
    rcases (show _ ∨ _ from h) with ⟨F2, e2, -, y, y1, y2, y3, y4⟩ | h'
    · rw [if_pos F2.2] at eM
      obtain ⟨S', SM', g1', g2', g3, g4, s5, p5, k5, c5, T5, g5⟩ := j_wets (B := B) (n := n) hT 7 1 5000 4999 S4 (sU SM2 14 8 v') s2 p2 k2 (by omega) (by omega) (by omega) (by omega) (T2.on (fun j => kx 2 j (by omega) (by omega)) (fun j => kx 3 j (by omega) (by omega)) (fun j _ _ => sU_n (by omega)) (fun j _ => sU_n (by omega))) ⟨⟨by rw [kx 1 2 (by omega) (by omega)]; exact F2.1.1, by rw [kx 1 3 (by omega) (by omega)]; exact F2.1.2⟩, by rw [sU_n (by omega)]; exact F2.2⟩ ((xdr_on (kx 1 1 (by omega) (by omega))).trans hU2) (by rw [h4, sU_ap, if_pos ⟨rfl, rfl⟩]; rfl) (fun q z => by
        obtain rfl : q = 0 := by omega
        refine ⟨y, y2, ?_, ?_⟩
        · rw [h4, sU_n (by omega), sU_ap, if_pos ⟨rfl, rfl⟩]; exact y3
        · rw [sU_ap, if_pos ⟨rfl, rfl⟩]; exact y4)
      obtain ⟨f1, f2, f3, f4⟩ := fin S2 SM2 S' SM' o1 o2 (fun i j z1 z2 z3 => by rw [g3 i j z1 z2 z3]; exact kx i j z2 (by omega)) (fun i j z1 z2 z3 => by rw [g4 i j z1 z2 z3]; exact sU_n (by omega))
      refine ⟨S', SM', ?_, ?_, f3, f4, s5, p5, k5, T5, ?_⟩
      · rw [eX]
        exact g1'
      · rw [wetM a2, eM, bnd_t (show fX12_sayWets_h22 5000 4999 1 _ = _ from g2')]
      · rcases g5 with ⟨w1, w2, w3, w4, w5, w6, w7⟩ | g5
        · exact Or.inl ⟨w1, by omega, g0, g1, c5, b, c1, c2, tk, dr_wet hT hd f1 f2 ⟨w5, w6, w4, w7⟩, (dn_1 (nw := 0) w3).1⟩
        · exact Or.inr g5
    · rw [if_neg (flt_x (N := 5000) h').2.1] at eM
      have hf : flt S4 SM2 := by
        obtain ⟨q, q1, q2, q3, q4, q5⟩ := h'
        exact ⟨q, q1, q2, by rw [kx 1 2 (by omega) (by omega)]; exact q3, q4, by rw [kx 1 3 (by omega) (by omega)]; exact q5⟩
      obtain ⟨f1, f2, f3, f4⟩ := fin S2 SM2 S4 SM2 o1 o2 (fun i j z1 z2 z3 => kx i j z2 (by omega)) (fun i j z1 z2 z3 => rfl)
      refine ⟨S4, SM2, ?_, ?_, f3, f4, s2, p2, k2, T2.on (fun j => kx 2 j (by omega) (by omega)) (fun j => kx 3 j (by omega) (by omega)) (fun _ _ _ => rfl) (fun _ _ => rfl), Or.inr hf⟩
      · rw [eX]
        exact wet_flt hf (f := 4999)
      · rw [wetM a2, eM]
        rfl
  · obtain ⟨S2, SM2, r1, r2, r3, ⟨o1, o2, s2, p2, k2, T2, -⟩⟩ := j_refuse (q := 1) (G := False) (by decide) T1 F1
    have hk := T1.2.2.2.1
    unfold tkK at hk
    have e4 : ¬ S1 2 4 = 2 := by
      rw [T1.2.1.2.2.2]
      exact fun z => q2 ((nI_eq (b := 2) (by omega) (by omega)).mp z)
    have m4 : ¬ SM1 99 23 = 2 := by
      rw [T1.2.2.1.2.2.2.2]
      exact fun z => q2 ((nI_eq (b := 2) (by omega) (by omega)).mp z)
    have hU2 : xdr S2 = U := (xdr_on (o1 1 1 rfl)).trans hU1
    have b1 : fX3_readNumber 5000 0 9 S1 = some (S2 2 6, S2) := by
      unfold fX3_readNumber fX3_readNumber_b0
      rw [if_neg e4]
      unfold fX3_readNumber_b11
      rw [bnd_t (show fX3_refuse 5000 1 S1 = _ from r1)]
      dsimp only
      unfold fX3_readNumber_b39
      rw [bnd_t (flt_x (N := 5000) r3).1]
      rfl
    have eX := wetX hT hU h10 a1 hU1 b1 hU2
    have eM : fX12_sayWets 5000 SM1 = some (0, sU SM2 5 9 0) := by
      unfold fX12_sayWets fX12_sayWets_b0
      rw [if_pos F1.2]
      unfold fX12_sayWets_b9
      rw [if_neg m4]
      unfold fX12_sayWets_b17
      rw [bnd_t (show fX12_wrong 5000 1 SM1 = _ from r2)]
      exact wets_bad (flt_x (N := 5000) r3).2.1 (f := 4999)
    obtain ⟨S4, h4⟩ : ∃ z, z = sU (sU S2 (U + 9) 0 (S2 2 6)) U 10 1 := ⟨_, rfl⟩
    rw [← h4] at eX
    have kx : ∀ a b, ¬ (a = U ∧ b = 10) → ¬ (a = U + 9 ∧ b = 0) → S4 a b = S2 a b := fun a b z1 z2 => by rw [h4, sU_n z1, sU_n z2]
    have hf : flt S4 (sU SM2 5 9 0) := by
      obtain ⟨q, q1, q2, q3, q4, q5⟩ := r3
      exact ⟨q, q1, q2, by rw [kx 1 2 (by omega) (by omega)]; exact q3, by rw [sU_n (by omega)]; exact q4, by rw [kx 1 3 (by omega) (by omega), sU_n (by omega)]; exact q5⟩
    obtain ⟨f1, f2, f3, f4⟩ := fin S2 SM2 S4 (sU SM2 5 9 0) o1 o2 (fun i j z1 z2 z3 => kx i j z2 (by omega)) (fun i j z1 z2 z3 => sU_n z2)
    refine ⟨S4, sU SM2 5 9 0, ?_, ?_, f3, f4, s2, p2, k2, T2.on (fun j => kx 2 j (by omega) (by omega)) (fun j => kx 3 j (by omega) (by omega)) (fun j _ _ => sU_n (by omega)) (fun j _ => sU_n (by omega)), Or.inr hf⟩
    · rw [eX]
      exact wet_flt hf (f := 4999)
    · rw [wetM a2, eM]
      rfl
end
end

/-! part 9792.lines -/
section
section
variable {B : Nat → Nat} {n s p k U g0 g1 nw b c1 c2 tk : Nat} {S SM S' SM' S1 SM1 S2 SM2 : gS}
theorem NUM.lin {G : Prop} {d : Int32} (h : NUM B n s S SM S' SM' G) (hf : flt S' SM') : LIN B n U s S SM S' SM' d := by
  obtain ⟨o1, o2, s', p', k', t, -⟩ := h
  exact ⟨fun i j z _ => o1 i j z, fun i j z _ => o2 i j z, s', p', k', t, Or.inr hf⟩
theorem xEx_n {r i j : Nat} (h : xNu i j = false) (h3 : ¬ (i = r ∧ j = 3)) (h4 : i ≠ r + 1) : xEx r i j = false := by
  show ((xNu i j || (i == r && j == 3)) || i == r + 1) = false
  rw [h, beq_eq_false_iff_ne.mpr h4, Bool.false_or, Bool.or_false, Bool.and_eq_false_iff, beq_eq_false_iff_ne, beq_eq_false_iff_ne]
  omega
theorem mEx_n {w sg i j : Nat} (h : mNu i j = false) (h3 : ¬ (i = 5 ∧ j = w)) (h4 : ¬ (i = sg ∧ 700 ≤ j)) : mEx w sg i j = false := by
  show ((mNu i j || (i == 5 && j == w)) || (i == sg && decide (700 ≤ j))) = false
  rw [h, Bool.false_or, Bool.or_eq_false_iff, Bool.and_eq_false_iff, Bool.and_eq_false_iff, beq_eq_false_iff_ne, beq_eq_false_iff_ne, beq_eq_false_iff_ne, decide_eq_false_iff_not]
  omega
/-- a GROTTO's LINE -/
theorem L_cave {x : Nat} (hx : x ≤ 1) (hd : drK U g0 g1 nw b c1 c2 tk S SM) (hU : xdr S = U) (T : tkJ B n s p k S SM) (F : fine S SM) (k0 : k ≠ 0) : ∃ S' SM', fX3_readGrotto 5000 (nI x) S = some (0, S') ∧ fX12_sayCave 5000 (nI x) SM = some (0, SM') ∧ LIN B n U s S SM S' SM' (doneV nw b c1 c2) := by
  have hT := xdr_cases (S := S)
  rw [hU] at hT
  obtain ⟨⟨q1, q2, q3, q4⟩, d2, d3, d4, d5, d6⟩ := hd
  by_cases hg : g0 < 8
  · obtain ⟨S', SM', a1, a2, X, M, s', p', k', T', h⟩ := j_cave hx T F k0 hg (by rw [hU]; exact q1) q2
    rw [hU] at X h
    replace h : hid _ := h
    refine ⟨S', SM', a1, a2, fun i j z1 z2 => X i j z1 (by omega) (by omega), fun i j z1 z2 => M i j z1 (fun z => z2 (Or.inr (Or.inl (by omega)))) (fun z => z2 (Or.inr (Or.inr (Or.inl (by omega))))), s', p', k', T', ?_⟩
    have X' : ∀ i j, U ≤ i → ¬ (i = U ∧ j = 0) → ¬ ((i = U + 1 ∨ i = U + 2 ∨ i = U + 3 ∨ i = U + 4) ∧ j = g0) → S' i j = S i j := fun i j z1 z2 z3 => X i j (xNu_u (by omega) (by omega)) z2 z3
    have M' : ∀ i j, i ≠ 99 → ¬ (i = 5 ∧ j = 6) → ¬ ((i = 6 ∨ i = 7 ∨ i = 8 ∨ i = 9) ∧ j = 8 + g0) → SM' i j = SM i j := fun i j z1 z2 z3 => M i j (mNu_u z1) z2 z3
    rcases (show _ ∨ _ from h) with ⟨F', e', h0, h5, y1, y2, y3, y4, y5⟩ | h
    · refine Or.inl ⟨F', e', g0 + 1, g1, nw, b, c1, c2, tk, ⟨⟨h0, h5, by omega, fun q hq => ?_⟩, (d2.on (X' _ _ (by omega) (by omega) (by omega)) (fun i j _ _ => X' i j (by omega) (by omega) (by omega)) (M' _ _ (by omega) (by omega) (by omega)) (M 99 30 rfl (by omega) (by omega)) (fun i j _ _ => M' i j (by omega) (by omega) (by omega))).more (by omega), d3.on (X' _ _ (by omega) (by omega) (by omega)) (fun j => X' _ j (by omega) (by omega) (by omega)) (M' _ _ (by omega) (by omega) (by omega)) (fun j => M' _ j (by omega) (by omega) (by omega)), d4.on (X' _ _ (by omega) (by omega) (by omega)) (M' _ _ (by omega) (by omega) (by omega)), d5.on (fun i j _ => X' i j (by omega) (by omega) (by omega)) (M' _ _ (by omega) (by omega) (by omega)) (fun j => M' _ j (by omega) (by omega) (by omega)), d6.on (fun i j _ => X' i j (by omega) (by omega) (by omega)) (M' _ _ (by omega) (by omega) (by omega)) (fun j => M' _ j (by omega) (by omega) (by omega))⟩, rfl⟩
      by_cases e : q = g0
      · subst e
        exact ⟨y1, y2, y3, x, hx, y4, y5⟩
      · rw [X' (U + 1) q (by omega) (by omega) (by omega), X' (U + 2) q (by omega) (by omega) (by omega), X' (U + 3) q (by omega) (by omega) (by omega), X' (U + 4) q (by omega) (by omega) (by omega), M' 7 _ (by omega) (by omega) (by omega), M' 8 _ (by omega) (by omega) (by omega), M' 9 _ (by omega) (by omega) (by omega), M' 6 _ (by omega) (by omega) (by omega)]
        exact q4 q (by omega)
    · exact Or.inr h
  · obtain rfl : g0 = 8 := by omega
    obtain ⟨S', SM', a1, a2, a3, a4⟩ := j_caveF (x := nI x) (x' := nI x) T F (by rw [hU]; exact q1) q2
    exact ⟨S', SM', a1, a2, a4.lin a3⟩
/-- the bound's -/
theorem L_bound (hd : drK U g0 g1 nw 0 c1 c2 tk S SM) (hU : xdr S = U) (T : tkJ B n s p k S SM) (F : fine S SM) (k0 : k ≠ 0) : ∃ S' SM', fX3_readBound 5000 S = some (0, S') ∧ fX12_sayOnce 5000 2 SM = some (0, SM') ∧ LIN B n U s S SM S' SM' (doneV nw 1 c1 c2) := by
  have hT := xdr_cases (S := S)
  rw [hU] at hT
  obtain ⟨d1, d2, d3, d4, d5, d6⟩ := hd
  obtain ⟨S', SM', a1, a2, X, M, s', p', k', T', h⟩ := j_bound T F k0 (by rw [hU]; exact d4.1)
  rw [hU] at X h
  replace h : hid _ := h
  refine ⟨S', SM', a1, a2, fun i j z1 z2 => X i j z1 (by omega), fun i j z1 z2 => M i j z1 (fun z => z2 (Or.inr (Or.inl (by omega)))), s', p', k', T', ?_⟩
  have X' : ∀ i j, U ≤ i → ¬ (i = U ∧ j = 12) → S' i j = S i j := fun i j z1 z2 => X i j (xNu_u (by omega) (by omega)) z2
  have M' : ∀ i j, i ≠ 99 → ¬ (i = 5 ∧ j = 8) → SM' i j = SM i j := fun i j z1 z2 => M i j (mNu_u z1) z2
  rcases (show _ ∨ _ from h) with ⟨F', e', y, y1, y2, y3, y4⟩ | h
  · refine Or.inl ⟨F', e', g0, g1, nw, y, c1, c2, tk, ⟨d1.on (X' _ _ (by omega) (by omega)) (fun i j _ _ => X' i j (by omega) (by omega)) (M' _ _ (by omega) (by omega)) (fun i j _ _ => M' i j (by omega) (by omega)), d2.on (X' _ _ (by omega) (by omega)) (fun i j _ _ => X' i j (by omega) (by omega)) (M' _ _ (by omega) (by omega)) (M 99 30 rfl (by omega)) (fun i j _ _ => M' i j (by omega) (by omega)), d3.on (X' _ _ (by omega) (by omega)) (fun j => X' _ j (by omega) (by omega)) (M' _ _ (by omega) (by omega)) (fun j => M' _ j (by omega) (by omega)), ⟨y3, y2, by rw [if_neg (by omega)]; exact y4⟩, d5.on (fun i j _ => X' i j (by omega) (by omega)) (M' _ _ (by omega) (by omega)) (fun j => M' _ j (by omega) (by omega)), d6.on (fun i j _ => X' i j (by omega) (by omega)) (M' _ _ (by omega) (by omega)) (fun j => M' _ j (by omega) (by omega))⟩, (dn_1 (b := 0) y1).2.1⟩
  · exact Or.inr h
/-- the prays' -/
theorem L_prays (hd : drK U g0 g1 nw b 0 c2 tk S SM) (hU : xdr S = U) (T : tkJ B n s p k S SM) (F : fine S SM) (k0 : k ≠ 0) : ∃ S' SM', fX3_readRule 5000 (U + 10) S = some (0, S') ∧ fX12_sayOnce 5000 4 SM = some (0, SM') ∧ LIN B n U s S SM S' SM' (doneV nw b 1 c2) := by
  have hT := xdr_cases (S := S)
  rw [hU] at hT
  obtain ⟨d1, d2, d3, d4, d5, d6⟩ := hd
  obtain ⟨⟨D, ⟨r1, r2, -⟩, -⟩, r3⟩ := d5
  obtain ⟨S', SM', a1, a2, X, M, s', p', k', c', T', c7, h3, h⟩ := j_rule (r := U + 10) (w := 10) (sg := 15) (x := 4) (by omega) (Or.inl ⟨rfl, rfl, rfl, r3⟩) T F k0 r1 r2
  replace h : hid _ := h
  have X' : ∀ i j, xNu i j = false → ¬ (i = U + 10 ∧ j = 3) → i ≠ U + 10 + 1 → S' i j = S i j := fun i j z1 z2 z3 => X i j (xEx_n z1 z2 z3)
  have M' : ∀ i j, mNu i j = false → ¬ (i = 99 ∧ (j = 31 ∨ j = 3)) → ¬ (i = 5 ∧ j = 10) → ¬ (i = 15 ∧ 700 ≤ j) → SM' i j = SM i j := fun i j z1 z2 z3 z4 => M i j (mEx_n z1 z3 z4) z2
  refine ⟨S', SM', a1, a2, fun i j z1 z2 => X' i j z1 (by omega) (by omega), fun i j z1 z2 => M' i j z1 (fun z => z2 (Or.inl (by omega))) (fun z => z2 (Or.inr (Or.inl (by omega)))) (fun z => z2 (Or.inr (Or.inr (Or.inr (Or.inr (by omega)))))), s', p', k', T', ?_⟩
  have X2 : ∀ i j, U ≤ i → ¬ (i = U + 10 ∧ j = 3) → i ≠ U + 10 + 1 → S' i j = S i j := fun i j z1 z2 z3 => X' i j (xNu_u (by omega) (by omega)) z2 z3
  have M2 : ∀ i j, i ≠ 99 → ¬ (i = 5 ∧ j = 10) → i ≠ 15 → SM' i j = SM i j := fun i j z1 z2 z3 => M' i j (mNu_u z1) (by omega) z2 (by omega)
  rcases (show _ ∨ _ from h) with ⟨F', R', e1, e2⟩ | h
  · refine Or.inl ⟨F', e2, g0, g1, nw, b, c', c2, tk, ⟨d1.on (X2 _ _ (by omega) (by omega) (by omega)) (fun i j _ _ => X2 i j (by omega) (by omega) (by omega)) (M2 _ _ (by omega) (by omega) (by omega)) (fun i j _ _ => M2 i j (by omega) (by omega) (by omega)), d2.on (X2 _ _ (by omega) (by omega) (by omega)) (fun i j _ _ => X2 i j (by omega) (by omega) (by omega)) (M2 _ _ (by omega) (by omega) (by omega)) (M' 99 30 rfl (by omega) (by omega) (by omega)) (fun i j _ _ => M2 i j (by omega) (by omega) (by omega)), d3.on (X2 _ _ (by omega) (by omega) (by omega)) (fun j => X2 _ j (by omega) (by omega) (by omega)) (M2 _ _ (by omega) (by omega) (by omega)) (fun j => M2 _ j (by omega) (by omega) (by omega)), d4.on (X2 _ _ (by omega) (by omega) (by omega)) (M2 _ _ (by omega) (by omega) (by omega)), ⟨⟨1, R', Or.inr rfl⟩, (X2 _ _ (by omega) (by omega) (by omega)).trans r3⟩, d6.on (fun i j _ => X2 i j (by omega) (by omega) (by omega)) (M2 _ _ (by omega) (by omega) (by omega)) (fun j => M2 _ j (by omega) (by omega) (by omega))⟩, (dn_1 (nw := nw) (b := b) (c1 := 0) e1).2.2.1⟩
  · exact Or.inr h
/-- the costs' -/
theorem L_costs (hd : drK U g0 g1 nw b c1 0 tk S SM) (hU : xdr S = U) (T : tkJ B n s p k S SM) (F : fine S SM) (k0 : k ≠ 0) : ∃ S' SM', fX3_readRule 5000 (U + 13) S = some (0, S') ∧ fX12_sayOnce 5000 8 SM = some (0, SM') ∧ LIN B n U s S SM S' SM' (doneV nw b c1 1) := by
  have hT := xdr_cases (S := S)
  rw [hU] at hT
  obtain ⟨d1, d2, d3, d4, d5, d6⟩ := hd
  obtain ⟨⟨D, ⟨r1, r2, -⟩, -⟩, r3⟩ := d6
  obtain ⟨S', SM', a1, a2, X, M, s', p', k', c', T', c7, h3, h⟩ := j_rule (r := U + 13) (w := 11) (sg := 16) (x := 8) (by omega) (Or.inr ⟨rfl, rfl, rfl, r3⟩) T F k0 r1 r2
  replace h : hid _ := h
  have X' : ∀ i j, xNu i j = false → ¬ (i = U + 13 ∧ j = 3) → i ≠ U + 13 + 1 → S' i j = S i j := fun i j z1 z2 z3 => X i j (xEx_n z1 z2 z3)
  have M' : ∀ i j, mNu i j = false → ¬ (i = 99 ∧ (j = 31 ∨ j = 3)) → ¬ (i = 5 ∧ j = 11) → ¬ (i = 16 ∧ 700 ≤ j) → SM' i j = SM i j := fun i j z1 z2 z3 z4 => M i j (mEx_n z1 z3 z4) z2
  refine ⟨S', SM', a1, a2, fun i j z1 z2 => X' i j z1 (by omega) (by omega), fun i j z1 z2 => M' i j z1 (fun z => z2 (Or.inl (by omega))) (fun z => z2 (Or.inr (Or.inl (by omega)))) (fun z => z2 (Or.inr (Or.inr (Or.inr (Or.inr (by omega)))))), s', p', k', T', ?_⟩
  have X2 : ∀ i j, U ≤ i → ¬ (i = U + 13 ∧ j = 3) → i ≠ U + 13 + 1 → S' i j = S i j := fun i j z1 z2 z3 => X' i j (xNu_u (by omega) (by omega)) z2 z3
  have M2 : ∀ i j, i ≠ 99 → ¬ (i = 5 ∧ j = 11) → i ≠ 16 → SM' i j = SM i j := fun i j z1 z2 z3 => M' i j (mNu_u z1) (by omega) z2 (by omega)
  rcases (show _ ∨ _ from h) with ⟨F', R', e1, e2⟩ | h
  · refine Or.inl ⟨F', e2, g0, g1, nw, b, c1, c', tk, ⟨d1.on (X2 _ _ (by omega) (by omega) (by omega)) (fun i j _ _ => X2 i j (by omega) (by omega) (by omega)) (M2 _ _ (by omega) (by omega) (by omega)) (fun i j _ _ => M2 i j (by omega) (by omega) (by omega)), d2.on (X2 _ _ (by omega) (by omega) (by omega)) (fun i j _ _ => X2 i j (by omega) (by omega) (by omega)) (M2 _ _ (by omega) (by omega) (by omega)) (M' 99 30 rfl (by omega) (by omega) (by omega)) (fun i j _ _ => M2 i j (by omega) (by omega) (by omega)), d3.on (X2 _ _ (by omega) (by omega) (by omega)) (fun j => X2 _ j (by omega) (by omega) (by omega)) (M2 _ _ (by omega) (by omega) (by omega)) (fun j => M2 _ j (by omega) (by omega) (by omega)), d4.on (X2 _ _ (by omega) (by omega) (by omega)) (M2 _ _ (by omega) (by omega) (by omega)), d5.on (fun i j _ => X2 i j (by omega) (by omega) (by omega)) (M2 _ _ (by omega) (by omega) (by omega)) (fun j => M2 _ j (by omega) (by omega) (by omega)), ⟨⟨1, R', Or.inr rfl⟩, (X2 _ _ (by omega) (by omega) (by omega)).trans r3⟩⟩, (dn_1 (nw := nw) (b := b) (c2 := 0) e1).2.2.2⟩
  · exact Or.inr h
end
end

/-! part 9793.hired -/
section
section
variable {B : Nat → Nat} {n s p k U g0 g1 nw b c1 c2 tk : Nat} {S SM S' SM' S1 SM1 S2 SM2 : gS}
theorem x_hired {x : Int32} (h5 : S U 5 = nI g1) (h6 : g1 ≤ 6) : ∃ v, fX9_isHired 5000 U x S = some (v, S) ∧ ((∃ g, g < g1 ∧ S (U + 8) g = x) → v = 1) ∧ ((∀ g, g < g1 → ¬ S (U + 8) g = x) → v = 0) := by
  have aux : ∀ (m i f : Nat), i + m = g1 → m < f → ∃ v, fX9_isHired_h2 5000 f U x (nI i) S = some (v, S) ∧ ((∃ g, i ≤ g ∧ g < g1 ∧ S (U + 8) g = x) → v = 1) ∧ ((∀ g, i ≤ g → g < g1 → ¬ S (U + 8) g = x) → v = 0) := by
    intro m
    induction m with
    | zero =>
      intro i f hi hf
      obtain ⟨f, rfl⟩ : ∃ y, f = y + 1 := ⟨f - 1, by omega⟩
      refine ⟨0, ?_, fun z => ?_, fun _ => rfl⟩
      · show fX9_isHired_b2 5000 (fX9_isHired_h2 5000 f) U x (nI i) S = _
        unfold fX9_isHired_b2
        rw [h5, if_pos (nI_le (by omega) (by omega))]
        rfl
      · obtain ⟨g, z1, z2, -⟩ := z
        omega
    | succ m ih =>
      intro i f hi hf
      obtain ⟨f, rfl⟩ : ∃ y, f = y + 1 := ⟨f - 1, by omega⟩
      have e : fX9_isHired_h2 5000 (f + 1) U x (nI i) S = if S (U + 8) i = x then some (1, S) else fX9_isHired_h2 5000 f U x (nI (i + 1)) S := by
        show fX9_isHired_b2 5000 (fX9_isHired_h2 5000 f) U x (nI i) S = _
        unfold fX9_isHired_b2
        rw [h5, if_neg (nI_ge (by omega) (by omega))]
        unfold fX9_isHired_b10
        rw [chk_t (inb_t (by omega) (by decide)), nI_clamp (by omega)]
        unfold fX9_isHired_b22
        rw [nI_1 i]
        rfl
      rw [e]
      by_cases hx : S (U + 8) i = x
      · rw [if_pos hx]
        exact ⟨1, rfl, fun _ => rfl, fun z => absurd hx (z i (by omega) (by omega))⟩
      · rw [if_neg hx]
        obtain ⟨v, v1, v2, v3⟩ := ih (i + 1) f (by omega) (by omega)
        refine ⟨v, v1, fun ⟨g, z1, z2, z3⟩ => v2 ⟨g, ?_, z2, z3⟩, fun z => v3 (fun g z1 z2 => z g (by omega) z2)⟩
        by_cases hg : g = i
        · subst hg
          exact absurd z3 hx
        · omega
  obtain ⟨v, v1, v2, v3⟩ := aux g1 0 5000 (by omega) (by omega)
  exact ⟨v, v1, fun ⟨g, z1, z2⟩ => v2 ⟨g, by omega, z1, z2⟩, fun z => v3 (fun g _ z1 => z g z1)⟩
/-- a number up to 9999, read by both, not yet gone over by the reference -/
theorem j_now (T : tkJ B n s p k S SM) (F : fine S SM) : (k ≠ 0 ∧ S 2 4 = 2 ∧ ∃ y, y ≤ 9999 ∧ S 2 6 = nI y ∧ fX12_numberNow 5000 0 9999 SM = some (nI y, SM) ∧ fX3_readNumber 5000 0 9999 S = bnd (fX8_advance 5000 S) (fun q => some (nI y, q.2))) ∨ ((¬ S 2 4 = 2 ∨ S 2 6 = nI 10000) ∧ ∃ S' SM', fX3_readNumber 5000 0 9999 S = some (S' 2 6, S') ∧ fX12_numberNow 5000 0 9999 SM = some (0, SM') ∧ flt S' SM' ∧ NUM B n s S SM S' SM' False) := by
  have n7 := T.1.1
  have hk := T.2.2.2.1
  unfold tkK at hk
  have bad : ∀ q : Nat, 1 ≤ q ∧ q ≤ 5 → (fX3_readNumber 5000 0 9999 S = bnd (fX3_refuse 5000 (nI q) S) (fun q1 => fX3_readNumber_b39 5000 q1.2)) → (fX12_numberNow 5000 0 9999 SM = bnd (fX12_wrong 5000 (nI q) SM) (fun q1 => fX12_numberNow_b59 5000 q1.2)) → ∃ S' SM', fX3_readNumber 5000 0 9999 S = some (S' 2 6, S') ∧ fX12_numberNow 5000 0 9999 SM = some (0, SM') ∧ flt S' SM' ∧ NUM B n s S SM S' SM' False := by
    intro q hq e1 e2
    obtain ⟨S', SM', a1, a2, a3, a4⟩ := j_refuse (q := q) (G := False) hq T F
    obtain ⟨f1, f2, f3⟩ := flt_x (N := 5000) a3
    refine ⟨S', SM', ?_, ?_, a3, a4⟩
    · rw [e1, bnd_t a1]
      show fX3_readNumber_b39 5000 S' = _
      unfold fX3_readNumber_b39
      rw [bnd_t f1]
      rfl
    · rw [e2, bnd_t a2]
      show fX12_numberNow_b59 5000 SM' = _
      unfold fX12_numberNow_b59
      rw [if_neg f2]
      rfl
  by_cases k2 : k = 2
  · subst k2
    obtain ⟨v1, v2⟩ := T.2.2.2.2 rfl
    have e4 : S 2 4 = 2 := T.2.1.2.2.2
    have m4 : SM 99 23 = 2 := T.2.2.1.2.2.2.2
    have hX : fX3_readNumber 5000 0 9999 S = fX3_readNumber_b19 5000 0 9999 S := by
      unfold fX3_readNumber fX3_readNumber_b0
      rw [if_pos e4]
    have hM : fX12_numberNow 5000 0 9999 SM = fX12_numberNow_b25 5000 0 9999 SM := by
      unfold fX12_numberNow fX12_numberNow_b0
      rw [if_pos F.2]
      unfold fX12_numberNow_b9
      rw [if_pos m4]
    have eps : SM 99 26 - SM 99 25 = nI (p - s) := by rw [T.2.2.1.2.2.1, T.2.2.1.2.2.2.1, pk_sub hk.1]
    by_cases q : p - s ≤ 4
    · obtain ⟨y, y1, y2, y3⟩ := v1 q
      refine Or.inl ⟨by decide, e4, y, y1, y2, ?_, ?_⟩
      · rw [hM]
        unfold fX12_numberNow_b25
        rw [eps, if_neg (show ¬ (4 : Int32) < nI (p - s) from nI_nlt (a := 4) (by omega) (by decide))]
        unfold fX12_numberNow_b38
        rw [y3, if_neg (show ¬ nI y < 0 from nI_nlt (b := 0) (by omega) (by omega))]
        unfold fX12_numberNow_b46
        rw [y3, if_pos (show nI y ≤ 9999 from nI_le (b := 9999) y1 (by decide))]
        unfold fX12_numberNow_b59
        rw [if_pos F.2]
        unfold fX12_numberNow_b66
        rw [y3]
        rfl
      · rw [hX]
        unfold fX3_readNumber_b19
        have ew : wth (nI y) 0 9999 = true := by
          unfold wth
          rw [decide_eq_true (show (0 : Int32) ≤ nI y from nI_le (a := 0) (by omega) (by omega)), decide_eq_true (show nI y ≤ 9999 from nI_le (b := 9999) y1 (by decide))]
          rfl
        rw [y2, bnd_t x_isWithin, ew]
        show fX3_readNumber_b39 5000 S = _
        unfold fX3_readNumber_b39
        rw [bnd_t (fine_x F), y2]
        rfl
    · have h6 := v2 (by omega)
      refine Or.inr ⟨Or.inr h6, bad 2 (by decide) ?_ ?_⟩
      · rw [hX]
        unfold fX3_readNumber_b19
        rw [h6, bnd_t x_isWithin, show wth (nI 10000) 0 9999 = false by decide]
        rfl
      · rw [hM]
        unfold fX12_numberNow_b25
        rw [eps, if_pos (show (4 : Int32) < nI (p - s) from nI_lt (a := 4) (by omega) (by omega))]
        rfl
  · have e4 : ¬ S 2 4 = 2 := by
      rw [T.2.1.2.2.2]
      exact fun z => k2 ((nI_eq (b := 2) (by omega) (by omega)).mp z)
    have m4 : ¬ SM 99 23 = 2 := by
      rw [T.2.2.1.2.2.2.2]
      exact fun z => k2 ((nI_eq (b := 2) (by omega) (by omega)).mp z)
    refine Or.inr ⟨Or.inl e4, bad 1 (by decide) ?_ ?_⟩
    · unfold fX3_readNumber fX3_readNumber_b0
      rw [if_neg e4]
      rfl
    · unfold fX12_numberNow fX12_numberNow_b0
      rw [if_pos F.2]
      unfold fX12_numberNow_b9
      rw [if_neg m4]
      rfl
theorem tk_bt : ∀ t, t < 256 → ∀ y, y < 8 → bt (nI t) (nI y) = t.testBit y ∧ nI t ||| ((1 : Int32) <<< (nI y &&& 31)) = nI (t ||| 2 ^ y) ∧ (t ||| 2 ^ y) < 256 := by decide +kernel
/-- what a GUILD hires -/
theorem j_hired (hg1 : g1 < 6) (hU : xdr S = U) (hT : U = 72 ∨ U = 4) (h0 : S U 0 = nI g0) (m0 : SM 5 6 = nI g0) (h8 : g0 ≤ 8) (h5 : S U 5 = nI g1) (m30 : SM 99 30 = nI tk) (t8 : tk < 256) (tb : ∀ q, q < 8 → (tk.testBit q = true ↔ ∃ g, g < g1 ∧ S (U + 8) g = nI q)) (T : tkJ B n s p k S SM) (F : fine S SM) : ∃ v S' SM', fX3_readHired 5000 S = some (v, S') ∧ bnd (fX12_numberNow 5000 0 9999 SM) (fun q2 => if q2.2 99 27 = 0 then fX12_sayGuild_b99 5000 (nI (6 + g1)) q2.1 q2.2 else fX12_sayGuild_b115 5000 (nI (6 + g1)) q2.1 q2.2) = fX12_sayGuild_b168 5000 SM' ∧ oSame xNu S S' ∧ (∀ i j, mNu i j = false → ¬ (i = 99 ∧ j = 30) → ¬ (i = 13 ∧ j = 6 + g1) → SM' i j = SM i j) ∧ ∃ s' p' k', tkJ B n s' p' k' S' SM' ∧ ((fine S' SM' ∧ s + 1 ≤ s' ∧ ∃ y, y < g0 ∧ v = nI y ∧ tk.testBit y = false ∧ SM' 99 30 = nI (tk ||| 2 ^ y) ∧ SM' 13 (6 + g1) = nI y) ∨ flt S' SM') := by
  have bd1 : ∀ (M : gS) (v : Int32), M 99 27 ≠ 0 → fX12_sayGuild_b138 5000 (nI (6 + g1)) v M = fX12_sayGuild_b168 5000 M := by
    intro M v h
    unfold fX12_sayGuild_b138
    rw [if_neg h]
  have bd2 : ∀ (M : gS) (v : Int32), M 99 27 ≠ 0 → fX12_sayGuild_b115 5000 (nI (6 + g1)) v M = fX12_sayGuild_b168 5000 M := by
    intro M v h
    unfold fX12_sayGuild_b115
    rw [if_neg h]
    exact bd1 M v h
  have b71 : ∀ S' SM' : gS, ∀ s' p' k', tkJ B n s' p' k' S' SM' → flt S' SM' → fX3_readHired_b71 5000 S' = some (S' 2 6, S') := by
    intro S' SM' s' p' k' T' h
    unfold fX3_readHired_b71
    rw [bnd_t (show fX3_readNumber 5000 0 9999 S' = _ from (j_num0 (lo := 0) (hi := 9999) T' h).1)]
  rcases j_now T F with ⟨k0, e4, y, y9, e6, eM, eX⟩ | ⟨hc, S', SM', r1, r2, r3, ⟨o1, o2, s', p', k', T', -⟩⟩
  · have hX : fX3_readHired 5000 S = fX3_readHired_b24 5000 S := by
      unfold fX3_readHired fX3_readHired_b0
      rw [if_pos e4]
      unfold fX3_readHired_b11
      rw [e6, if_neg (show ¬ (9999 : Int32) < nI y from nI_nlt (a := 9999) y9 (by decide))]
    have hM : bnd (fX12_numberNow 5000 0 9999 SM) (fun q2 => if q2.2 99 27 = 0 then fX12_sayGuild_b99 5000 (nI (6 + g1)) q2.1 q2.2 else fX12_sayGuild_b115 5000 (nI (6 + g1)) q2.1 q2.2) = fX12_sayGuild_b99 5000 (nI (6 + g1)) (nI y) SM := by
      rw [bnd_t eM]
      exact if_pos F.2
    by_cases hy : y < g0
    · obtain ⟨v, i1, i2, i3⟩ := x_hired (x := nI y) h5 (by omega)
      have hX2 : fX3_readHired_b24 5000 S = if v = 0 then fX3_readHired_b71 5000 S else fX3_readHired_b66 5000 S := by
        unfold fX3_readHired_b24
        dsimp only [lt]
        rw [hU, e6, bnd_t (x_isGrotto h0 (by omega)), inb_t hy (by omega)]
        show fX3_readHired_b49 5000 S = _
        unfold fX3_readHired_b49
        dsimp only [lt]
        rw [hU, e6, bnd_t i1]
      obtain ⟨w1, w2, w3⟩ := tk_bt tk t8 y (by omega)
      have hM2 : fX12_sayGuild_b99 5000 (nI (6 + g1)) (nI y) SM = if iv (tk.testBit y) = 0 then fX12_sayGuild_b138 5000 (nI (6 + g1)) (nI y) SM else fX12_sayGuild_b133 5000 (nI (6 + g1)) (nI y) SM := by
        unfold fX12_sayGuild_b99
        rw [m0, if_pos (nI_lt hy (by omega))]
        unfold fX12_sayGuild_b115
        rw [if_pos F.2]
        unfold fX12_sayGuild_b122
        rw [bnd_t m_isOf, m30, w1]
      cases htb : tk.testBit y with
      | true =>
        obtain rfl : v = 1 := i2 ((tb y (by omega)).mp htb)
        rw [htb] at hM2
        obtain ⟨S', SM', a1, a2, a3, ⟨o1, o2, s', p', k', T', -⟩⟩ := j_refuse (q := 4) (G := False) (by decide) T F
        refine ⟨S' 2 6, S', SM', ?_, ?_, o1, fun i j z _ _ => o2 i j z, s', p', k', T', Or.inr a3⟩
        · rw [hX, hX2]
          show fX3_readHired_b66 5000 S = _
          unfold fX3_readHired_b66
          rw [bnd_t (show fX3_refuse 5000 4 S = _ from a1)]
          exact b71 S' SM' s' p' k' T' a3
        · rw [hM, hM2]
          show fX12_sayGuild_b133 5000 (nI (6 + g1)) (nI y) SM = _
          unfold fX12_sayGuild_b133
          rw [bnd_t (show fX12_wrong 5000 4 SM = _ from a2)]
          exact bd1 SM' (nI y) (flt_x (N := 5000) a3).2.1
      | false =>
        obtain rfl : v = 0 := i3 (fun g z1 z2 => by
          have := (tb y (by omega)).mpr ⟨g, z1, z2⟩
          rw [htb] at this
          cases this)
        rw [htb] at hM2
        obtain ⟨S', SM', s', p', k', a1, a2, a3, a4, a5, a6, a7⟩ := j_tok T F k0
        have km : ∀ i j, ¬ (i = 99 ∧ j = 30) → ¬ (i = 13 ∧ j = 6 + g1) → sU (sU SM' 99 30 (nI (tk ||| 2 ^ y))) 13 (6 + g1) (nI y) i j = SM' i j := fun i j z1 z2 => by rw [sU_n z2, sU_n z1]
        refine ⟨nI y, S', sU (sU SM' 99 30 (nI (tk ||| 2 ^ y))) 13 (6 + g1) (nI y), ?_, ?_, fun i j z => a6 i j (xNu_f z).1, fun i j z1 z2 z3 => by rw [km i j z2 z3]; exact a7 i j (mNu_f z1).1, s', p', k', a3.on (fun _ => rfl) (fun _ => rfl) (fun j _ _ => km 99 j (by omega) (by omega)) (fun j _ => km 19 j (by omega) (by omega)), Or.inl ⟨⟨a4.1, by rw [km 99 27 (by omega) (by omega)]; exact a4.2⟩, a5, y, hy, rfl, htb, by rw [sU_n (by omega), sU_s], sU_s⟩⟩
        · rw [hX, hX2]
          show fX3_readHired_b71 5000 S = _
          unfold fX3_readHired_b71
          rw [eX, bnd_t a1]
          rfl
        · rw [hM, hM2]
          show fX12_sayGuild_b138 5000 (nI (6 + g1)) (nI y) SM = _
          unfold fX12_sayGuild_b138
          rw [if_pos F.2]
          unfold fX12_sayGuild_b145
          dsimp only [lt]
          rw [bnd_t a2]
          dsimp only
          rw [show SM' 99 30 = nI tk from (a7 99 30 rfl).trans m30, w2, chk_t (inb_t (by omega) (by decide)), nI_clamp (by omega)]
    · obtain ⟨S', SM', a1, a2, a3, ⟨o1, o2, s', p', k', T', -⟩⟩ := j_refuse (q := 3) (G := False) (by decide) T F
      refine ⟨S' 2 6, S', SM', ?_, ?_, o1, fun i j z _ _ => o2 i j z, s', p', k', T', Or.inr a3⟩
      · rw [hX]
        unfold fX3_readHired_b24
        dsimp only [lt]
        rw [hU, e6, bnd_t (x_isGrotto h0 (by omega)), inb_f2 (by omega) (nI_le (by omega) (by omega))]
        show fX3_readHired_b41 5000 S = _
        unfold fX3_readHired_b41
        rw [bnd_t (show fX3_refuse 5000 3 S = _ from a1)]
        exact b71 S' SM' s' p' k' T' a3
      · rw [hM]
        unfold fX12_sayGuild_b99
        rw [m0, if_neg (nI_nlt (by omega) (by omega))]
        unfold fX12_sayGuild_b110
        rw [bnd_t (show fX12_wrong 5000 3 SM = _ from a2)]
        exact bd2 SM' (nI y) (flt_x (N := 5000) a3).2.1
  · refine ⟨S' 2 6, S', SM', ?_, ?_, o1, fun i j z _ _ => o2 i j z, s', p', k', T', Or.inr r3⟩
    · have e71 : fX3_readHired_b71 5000 S = some (S' 2 6, S') := by
        unfold fX3_readHired_b71
        rw [bnd_t r1]
      unfold fX3_readHired fX3_readHired_b0
      by_cases e4 : S 2 4 = 2
      · rw [if_pos e4]
        unfold fX3_readHired_b11
        rcases hc with hc | hc
        · exact absurd e4 hc
        · rw [hc, if_pos (by decide)]
          exact e71
      · rw [if_neg e4]
        exact e71
    · rw [bnd_t r2]
      show (if SM' 99 27 = 0 then _ else fX12_sayGuild_b115 5000 (nI (6 + g1)) 0 SM') = _
      rw [if_neg (flt_x (N := 5000) r3).2.1]
      exact bd2 SM' 0 (flt_x (N := 5000) r3).2.1
end
end

/-! part 9794.guild -/
section
section
variable {B : Nat → Nat} {n s p k U g0 g1 nw b c1 c2 tk : Nat} {S SM S' SM' S1 SM1 S2 SM2 : gS}
/-- a draft where a GUILD has come -/
theorem dr_guild (hT : U = 72 ∨ U = 4) (hg1 : g1 < 6) (hd : drK U g0 g1 nw b c1 c2 tk S SM) (X : ∀ i j, xNu i j = false → ¬ (i = U ∧ j = 5) → ¬ ((U + 5 ≤ i ∧ i ≤ U + 8) ∧ j = g1) → S' i j = S i j) (M : ∀ i j, mNu i j = false → ¬ (i = 5 ∧ j = 7) → ¬ (i = 99 ∧ j = 30) → ¬ ((10 ≤ i ∧ i ≤ 13) ∧ j = 6 + g1) → SM' i j = SM i j) (h5 : S' U 5 = nI (g1 + 1)) (m5 : SM' 5 7 = nI (g1 + 1)) (hH : dH U g0 g1 S' SM') (ht : (S' (U + 8) g1 = -1 ∧ SM' 99 30 = nI tk) ∨ ∃ y, y < g0 ∧ S' (U + 8) g1 = nI y ∧ tk.testBit y = false ∧ SM' 99 30 = nI (tk ||| 2 ^ y)) : ∃ tk', drK U g0 (g1 + 1) nw b c1 c2 tk' S' SM' := by
  replace ht : hid _ := ht
  obtain ⟨d1, ⟨e1, e2, e3, e4, e5, e6, e7, e8⟩, d3, d4, d5, d6⟩ := hd
  have hg0 : g0 ≤ 8 := d1.2.2.1
  have X' : ∀ i j, U ≤ i → ¬ (i = U ∧ j = 5) → ¬ ((U + 5 ≤ i ∧ i ≤ U + 8) ∧ j = g1) → S' i j = S i j := fun i j z1 z2 z3 => X i j (xNu_u (by omega) (by omega)) z2 z3
  have M' : ∀ i j, i ≠ 99 → ¬ (i = 5 ∧ j = 7) → ¬ ((10 ≤ i ∧ i ≤ 13) ∧ j = 6 + g1) → SM' i j = SM i j := fun i j z1 z2 z3 => M i j (mNu_u z1) z2 (by omega) z3
  have x8 : ∀ g, g < g1 → S' (U + 8) g = S (U + 8) g := fun g hg => X' (U + 8) g (by omega) (by omega) (by omega)
  have main : ∀ tk', SM' 99 30 = nI tk' → tk' < 256 → (∀ q, q < 8 → (tk'.testBit q = true ↔ ∃ g, g < g1 + 1 ∧ S' (U + 8) g = nI q)) → (∀ g, g < g1 → S (U + 8) g = S' (U + 8) g1 → S' (U + 8) g1 ≠ -1 → False) → drK U g0 (g1 + 1) nw b c1 c2 tk' S' SM' := by
    intro tk' t1 t2 t3 t4
    refine ⟨d1.on (X' _ _ (by omega) (by omega) (by omega)) (fun i j _ _ => X' i j (by omega) (by omega) (by omega)) (M' _ _ (by omega) (by omega) (by omega)) (fun i j _ _ => M' i j (by omega) (by omega) (by omega)), ⟨h5, m5, by omega, fun g hg => ?_, fun g g' hg hg' z1 z2 => ?_, t1, t2, t3⟩, d3.on (X' _ _ (by omega) (by omega) (by omega)) (fun j => X' _ j (by omega) (by omega) (by omega)) (M' _ _ (by omega) (by omega) (by omega)) (fun j => M' _ j (by omega) (by omega) (by omega)), d4.on (X' _ _ (by omega) (by omega) (by omega)) (M' _ _ (by omega) (by omega) (by omega)), d5.on (fun i j _ => X' i j (by omega) (by omega) (by omega)) (M' _ _ (by omega) (by omega) (by omega)) (fun j => M' _ j (by omega) (by omega) (by omega)), d6.on (fun i j _ => X' i j (by omega) (by omega) (by omega)) (M' _ _ (by omega) (by omega) (by omega)) (fun j => M' _ j (by omega) (by omega) (by omega))⟩
    · by_cases e : g = g1
      · subst e
        exact hH
      · exact (e4 g (by omega)).on (fun i _ _ => X' i g (by omega) (by omega) (by omega)) (fun i _ _ => M' i _ (by omega) (by omega) (by omega))
    · by_cases e : g = g1
      · by_cases e' : g' = g1
        · omega
        · subst e
          exact (t4 g' (by omega) (by rw [← x8 g' (by omega)]; exact z1.symm) z2).elim
      · by_cases e' : g' = g1
        · subst e'
          exact (t4 g (by omega) (by rw [← x8 g (by omega)]; exact z1) (by rw [← z1]; exact z2)).elim
        · rw [x8 g (by omega), x8 g' (by omega)] at z1
          rw [x8 g (by omega)] at z2
          exact e5 g g' (by omega) (by omega) z1 z2
  rcases (show _ ∨ _ from ht) with ⟨t1, t2⟩ | ⟨y, y0, y1, y2, y3⟩
  · refine ⟨tk, main tk t2 e7 (fun q hq => ?_) (fun g hg z1 z2 => z2 t1)⟩
    rw [e8 q hq]
    constructor
    · rintro ⟨g, z1, z2⟩
      exact ⟨g, by omega, by rw [x8 g z1]; exact z2⟩
    · rintro ⟨g, z1, z2⟩
      by_cases e : g = g1
      · subst e
        rw [t1] at z2
        exact absurd z2.symm (nI_nem (by omega))
      · exact ⟨g, by omega, by rw [← x8 g (by omega)]; exact z2⟩
  · have no : ∀ g, g < g1 → ¬ S (U + 8) g = nI y := fun g hg z => by
      have := (e8 y (by omega)).mpr ⟨g, hg, z⟩
      rw [y2] at this
      cases this
    refine ⟨tk ||| 2 ^ y, main _ y3 (tk_bt tk e7 y (by omega)).2.2 (fun q hq => ?_) (fun g hg z1 z2 => no g hg (z1.trans y1))⟩
    rw [Nat.testBit_or, Nat.testBit_two_pow, Bool.or_eq_true, e8 q hq, decide_eq_true_iff]
    constructor
    · rintro (⟨g, z1, z2⟩ | z)
      · exact ⟨g, by omega, by rw [x8 g z1]; exact z2⟩
      · subst z
        exact ⟨g1, by omega, y1⟩
    · rintro ⟨g, z1, z2⟩
      by_cases e : g = g1
      · subst e
        rw [y1] at z2
        exact Or.inr ((nI_eq (by omega) (by omega)).mp z2)
      · exact Or.inl ⟨g, by omega, by rw [← x8 g (by omega)]; exact z2⟩
/-- a GUILD's LINE -/
theorem L_guild (hd : drK U g0 g1 nw b c1 c2 tk S SM) (hU : xdr S = U) (T : tkJ B n s p k S SM) (F : fine S SM) (k0 : k ≠ 0) : ∃ S' SM', fX3_readGuild 5000 S = some (0, S') ∧ fX12_sayGuild 5000 SM = some (0, SM') ∧ LIN B n U s S SM S' SM' (doneV nw b c1 c2) := by
  have hT := xdr_cases (S := S)
  rw [hU] at hT
  obtain ⟨e1, e2, e3, e4, e5, e6, e7, e8⟩ := hd.2.1
  obtain ⟨f1, f2, f3, -⟩ := hd.1
  by_cases hg : g1 < 6
  · obtain ⟨S1, SM1, s1, p1, k1, a1, a2, T1, F1, a5, a6, a7⟩ := j_tok T F k0
    obtain ⟨v, Sa, v', Ma, b1, b2, oa1, oa2, sa, pa, ka, Ta, ha⟩ := j_put (A := U + 5) (b := g1) (M := 10) (m := 6 + g1) (lo := 0) (hi := 9) (by decide) (by decide) (by omega) (by decide) T1 (Or.inl F1)
    replace ha : hid _ := ha
    obtain ⟨w, Sb, w', Mb, r1, r2, ob1, ob2, sb, pb, kb, Tb, hb⟩ := j_put (A := U + 6) (b := g1) (M := 11) (m := 6 + g1) (lo := 0) (hi := 99) (by decide) (by decide) (by omega) (by decide) Ta (Or.elim (show _ ∨ _ from ha) (fun z => Or.inl z.2.2.1) Or.inr)
    replace hb : hid _ := hb
    obtain ⟨u, Sc, u', Mc, t1, t2, oc1, oc2, sc, pc, kc, Tc, hc⟩ := j_put (A := U + 7) (b := g1) (M := 12) (m := 6 + g1) (lo := 0) (hi := 999) (by decide) (by decide) (by omega) (by decide) Tb (Or.elim (show _ ∨ _ from hb) (fun z => Or.inl z.2.2.1) Or.inr)
    replace hc : hid _ := hc
    have xr : ∀ S', S' 1 1 = S 1 1 → xdr S' = U := fun S' z => (xdr_on z).trans hU
    have y1 : S1 1 1 = S 1 1 := a6 1 1 rfl
    have ya : sU Sa (U + 5) g1 v 1 1 = S 1 1 := by rw [sU_n (by omega), oa1 1 1 rfl]; exact y1
    have yb : sU Sb (U + 6) g1 w 1 1 = S 1 1 := by rw [sU_n (by omega), ob1 1 1 rfl]; exact ya
    have yc : sU Sc (U + 7) g1 u 1 1 = S 1 1 := by rw [sU_n (by omega), oc1 1 1 rfl]; exact yb
    obtain ⟨S5, h5⟩ : ∃ z, z = sU (sU Sc (U + 7) g1 u) (U + 8) g1 (-1) := ⟨_, rfl⟩
    obtain ⟨M5, m5⟩ : ∃ z, z = sU (sU Mc 12 (6 + g1) u') 13 (6 + g1) (-1) := ⟨_, rfl⟩
    have X5 : ∀ i j, xNu i j = false → ¬ ((U + 5 ≤ i ∧ i ≤ U + 8) ∧ j = g1) → S5 i j = S i j := fun i j z1 z2 => by
      rw [h5, sU_n (by omega), sU_n (by omega), oc1 i j z1, sU_n (by omega), ob1 i j z1, sU_n (by omega), oa1 i j z1]
      exact a6 i j (xNu_f z1).1
    have M5f : ∀ i j, mNu i j = false → ¬ ((10 ≤ i ∧ i ≤ 13) ∧ j = 6 + g1) → M5 i j = SM i j := fun i j z1 z2 => by
      rw [m5, sU_n (by omega), sU_n (by omega), oc2 i j z1, sU_n (by omega), ob2 i j z1, sU_n (by omega), oa2 i j z1]
      exact a7 i j (mNu_f z1).1
    have T5 : tkJ B n sc pc kc S5 M5 := Tc.on (fun j => by rw [h5, sU_n (by omega)]) (fun j => by rw [h5, sU_n (by omega)]) (fun j _ _ => by rw [m5, sU_n (by omega)]) (fun j _ => by rw [m5, sU_n (by omega)])
    have hU5 : xdr S5 = U := xr S5 (X5 1 1 rfl (by omega))
    have q5 : S5 U 5 = nI g1 := (X5 U 5 (xNu_u (by omega) (by omega)) (by omega)).trans e1
    have n5 : M5 5 7 = nI g1 := (M5f 5 7 rfl (by omega)).trans e2
    have eX : fX3_readGuild 5000 S = bnd (fX3_isFine 5000 S5) (fun q5 => if q5.1 = 0 then fX3_readGuild_b125 5000 q5.2 else fX3_readGuild_b93 5000 (nI g1) q5.2) := by
      unfold fX3_readGuild fX3_readGuild_b0
      dsimp only [lt]
      rw [hU, e1, if_pos (show nI g1 < 6 from nI_lt (b := 6) hg (by decide))]
      unfold fX3_readGuild_b20
      dsimp only [lt]
      rw [bnd_t a1]
      dsimp only
      rw [xr S1 y1, bnd_t (show fX3_readNumber 5000 0 9 S1 = _ from b1)]
      dsimp only
      rw [chk_t (inb_t hg (by decide)), nI_clamp (by omega), xr _ ya, bnd_t (show fX3_readNumber 5000 0 99 _ = _ from r1)]
      dsimp only
      rw [chk_t (inb_t hg (by decide)), xr _ yb, bnd_t (show fX3_readNumber 5000 0 999 _ = _ from t1)]
      dsimp only
      rw [chk_t (inb_t hg (by decide)), xr _ yc, chk_t (inb_t hg (by decide)), h5]
    have eM : fX12_sayGuild 5000 SM = bnd (fX12_is 5000 44 M5) (fun q4 => if q4.1 = 0 then fX12_sayGuild_b168 5000 q4.2 else fX12_sayGuild_b79 5000 (nI (6 + g1)) q4.2) := by
      have z6 : (6 : Int32) + nI g1 = nI (6 + g1) := by rw [show (6 : Int32) = nI 6 from rfl, nI_add]
      have i12 : inb (nI (6 + g1)) 12 = true := inb_t (by omega) (by decide)
      have c12 : (nI (6 + g1)).toNatClampNeg = 6 + g1 := nI_clamp (by omega)
      have s57 : SM1 5 7 = nI g1 := (a7 5 7 rfl).trans e2
      unfold fX12_sayGuild fX12_sayGuild_b0
      have an : fX12_another 5000 1 6 SM = some (1, SM1) := by
        rw [show fX12_another 5000 1 6 SM = _ from m_another (w := 1) (c := g1) (mo := 6) (by decide) (by omega) (by decide) e2, if_neg (by omega)]
        unfold fX12_another_b18
        rw [if_pos F.2]
        unfold fX12_another_b27
        rw [bnd_t a2]
      rw [bnd_t an]
      show fX12_sayGuild_b11 5000 SM1 = _
      unfold fX12_sayGuild_b11
      dsimp only [lt]
      rw [s57, z6, bnd_t (show fX12_readNumber 5000 0 9 SM1 = _ from b2)]
      dsimp only
      rw [chk_t i12, c12, bnd_t (show fX12_readNumber 5000 0 99 _ = _ from r2)]
      dsimp only
      rw [chk_t i12, bnd_t (show fX12_readNumber 5000 0 999 _ = _ from t2)]
      dsimp only
      rw [chk_t i12, chk_t i12, m5]
    have eb125 : ∀ S' : gS, xdr S' = U → S' U 5 = nI g1 → fX3_readGuild_b125 5000 S' = some (0, sU S' U 5 (nI (g1 + 1))) := by
      intro S' z1 z2
      unfold fX3_readGuild_b125
      dsimp only [lt]
      rw [z1, z2, nI_1 g1]
    have eb168 : ∀ M' : gS, M' 5 7 = nI g1 → fX12_sayGuild_b168 5000 M' = some (0, sU M' 5 7 (nI (g1 + 1))) := by
      intro M' z
      unfold fX12_sayGuild_b168
      dsimp only [lt]
      rw [z, nI_1 g1]
    have fl : ∀ S' M' : gS, flt S' M' → flt (sU S' U 5 (nI (g1 + 1))) (sU M' 5 7 (nI (g1 + 1))) := by
      rintro S' M' ⟨q, q1, q2, q3, q4, q5⟩
      exact ⟨q, q1, q2, by rw [sU_n (by omega)]; exact q3, by rw [sU_n (by omega)]; exact q4, by rw [sU_n (by omega), sU_n (by omega)]; exact q5⟩
    have tk9 : ∀ (S' M' : gS) (s' p' k' : Nat), tkJ B n s' p' k' S' M' → tkJ B n s' p' k' (sU S' U 5 (nI (g1 + 1))) (sU M' 5 7 (nI (g1 + 1))) := fun S' M' s' p' k' t => t.on (fun j => sU_n (by omega)) (fun j => sU_n (by omega)) (fun j _ _ => sU_n (by omega)) (fun j _ => sU_n (by omega))
    rcases (show _ ∨ _ from hc) with ⟨fc1, fc2, fc3, y, y1', y2, rfl, rfl⟩ | hc'
    · rcases (show _ ∨ _ from hb) with ⟨gb1, gb2, gb3, z, z1, z2, rfl, rfl⟩ | hb'
      · rcases (show _ ∨ _ from ha) with ⟨l1, l2, l3, o, o1, o2, rfl, rfl⟩ | ha'
        · have F5 : fine S5 M5 := ⟨⟨by rw [h5, sU_n (by omega)]; exact fc3.1.1, by rw [h5, sU_n (by omega)]; exact fc3.1.2⟩, by rw [m5, sU_n (by omega)]; exact fc3.2⟩
          have xU : ∀ i j, (i = U + 5 ∨ i = U + 6 ∨ i = U + 7 ∨ i = U + 8) → xNu i j = false := fun i j z => xNu_u (by omega) (by omega)
          have v5 : S5 (U + 5) g1 = nI o := by rw [h5, sU_n (by omega), sU_n (by omega), oc1 _ _ (xU _ _ (by omega)), sU_n (by omega), ob1 _ _ (xU _ _ (by omega)), sU_s]
          have w5 : M5 10 (6 + g1) = nI o := by rw [m5, sU_n (by omega), sU_n (by omega), oc2 10 _ rfl, sU_n (by omega), ob2 10 _ rfl, sU_s]
          have v6 : S5 (U + 6) g1 = nI z := by rw [h5, sU_n (by omega), sU_n (by omega), oc1 _ _ (xU _ _ (by omega)), sU_s]
          have w6 : M5 11 (6 + g1) = nI z := by rw [m5, sU_n (by omega), sU_n (by omega), oc2 11 _ rfl, sU_s]
          have v7 : S5 (U + 7) g1 = nI y := by rw [h5, sU_n (by omega), sU_s]
          have w7 : M5 12 (6 + g1) = nI y := by rw [m5, sU_n (by omega), sU_s]
          have v8 : S5 (U + 8) g1 = -1 := by rw [h5, sU_s]
          have w8 : M5 13 (6 + g1) = -1 := by rw [m5, sU_s]
          have eX2 : fX3_readGuild 5000 S = if iv (isW B kc sc pc 5) = 0 then fX3_readGuild_b125 5000 S5 else fX3_readGuild_b105 5000 (nI g1) S5 := by
            rw [eX, bnd_t (fine_x F5)]
            show fX3_readGuild_b93 5000 (nI g1) S5 = _
            unfold fX3_readGuild_b93
            rw [bnd_t (x_isAtWord (by decide) T5)]
          have eM2 : fX12_sayGuild 5000 SM = if iv (isW B kc sc pc 5) = 0 then fX12_sayGuild_b168 5000 M5 else fX12_sayGuild_b79 5000 (nI (6 + g1)) M5 := by
            rw [eM, bnd_t (m_is (by decide) T5 F5.2)]
            rfl
          cases hw : isW B kc sc pc 5 with
          | false =>
            rw [hw] at eX2 eM2
            refine ⟨_, _, eX2.trans (eb125 S5 hU5 q5), eM2.trans (eb168 M5 n5), fun i j z1 z2 => ?_, fun i j z1 z2 => ?_, sc, pc, kc, tk9 _ _ _ _ _ T5, Or.inl ⟨⟨⟨by rw [sU_n (by omega)]; exact F5.1.1, by rw [sU_n (by omega)]; exact F5.1.2⟩, by rw [sU_n (by omega)]; exact F5.2⟩, by omega, ?_⟩⟩
            · rw [sU_n (by omega)]; exact X5 i j z1 (by omega)
            · unfold mBig at z2
              rw [sU_n (by omega)]; exact M5f i j z1 (by omega)
            · obtain ⟨tk', h⟩ := dr_guild (S' := sU S5 U 5 (nI (g1 + 1))) (SM' := sU M5 5 7 (nI (g1 + 1))) hT hg hd (fun i j z1 z2 z3 => by rw [sU_n z2]; exact X5 i j z1 z3) (fun i j z1 z2 _ z3 => by rw [sU_n z2]; exact M5f i j z1 z3) sU_s sU_s ⟨⟨o, o2, by rw [sU_n (by omega)]; exact v5, by rw [sU_n (by omega)]; exact w5⟩, ⟨z, z2, by rw [sU_n (by omega)]; exact v6, by rw [sU_n (by omega)]; exact w6⟩, ⟨y, y2, by rw [sU_n (by omega)]; exact v7, by rw [sU_n (by omega)]; exact w7⟩, by rw [sU_n (by omega), sU_n (by omega), v8, w8], Or.inl (by rw [sU_n (by omega)]; exact v8)⟩ (Or.inl ⟨by rw [sU_n (by omega)]; exact v8, by rw [sU_n (by omega)]; exact (M5f 99 30 rfl (by omega)).trans e6⟩)
              exact ⟨g0, g1 + 1, nw, b, c1, c2, tk', h, rfl⟩
          | true =>
            rw [hw] at eX2 eM2
            obtain ⟨S6, SM6, s6, p6, k6, i1, i2, T6, F6, i5, i6, i7⟩ := j_tok T5 F5 (isW_k hw)
            have X6 : ∀ i j, xNu i j = false → ¬ ((U + 5 ≤ i ∧ i ≤ U + 8) ∧ j = g1) → S6 i j = S i j := fun i j z1 z2 => (i6 i j (xNu_f z1).1).trans (X5 i j z1 z2)
            have M6 : ∀ i j, mNu i j = false → ¬ ((10 ≤ i ∧ i ≤ 13) ∧ j = 6 + g1) → SM6 i j = SM i j := fun i j z1 z2 => (i7 i j (mNu_f z1).1).trans (M5f i j z1 z2)
            have hU6 : xdr S6 = U := xr S6 (X6 1 1 rfl (by omega))
            obtain ⟨v, S7, SM7, j1, j2, j3, j4, s7, p7, k7, T7, j5⟩ := j_hired (g0 := g0) (g1 := g1) (U := U) (tk := tk) hg hU6 hT ((X6 U 0 (xNu_u (by omega) (by omega)) (by omega)).trans f1) ((M6 5 6 rfl (by omega)).trans f2) f3 ((X6 U 5 (xNu_u (by omega) (by omega)) (by omega)).trans e1) ((M6 99 30 rfl (by omega)).trans e6) e7 (fun q hq => by
              rw [e8 q hq]
              constructor
              · rintro ⟨g, c1, c2⟩
                exact ⟨g, c1, by rw [X6 (U + 8) g (xNu_u (by omega) (by omega)) (by omega)]; exact c2⟩
              · rintro ⟨g, c1, c2⟩
                exact ⟨g, c1, by rw [← X6 (U + 8) g (xNu_u (by omega) (by omega)) (by omega)]; exact c2⟩) T6 F6
            replace j5 : hid _ := j5
            have X7 : ∀ i j, xNu i j = false → ¬ ((U + 5 ≤ i ∧ i ≤ U + 8) ∧ j = g1) → sU S7 (U + 8) g1 v i j = S i j := fun i j z1 z2 => by
              rw [sU_n (by omega), j3 i j z1]
              exact X6 i j z1 z2
            have M7 : ∀ i j, mNu i j = false → ¬ (i = 99 ∧ j = 30) → ¬ ((10 ≤ i ∧ i ≤ 13) ∧ j = 6 + g1) → SM7 i j = SM i j := fun i j z1 z2 z3 => by
              rw [j4 i j z1 z2 (by omega)]
              exact M6 i j z1 z3
            have eX3 : fX3_readGuild 5000 S = some (0, sU (sU S7 (U + 8) g1 v) U 5 (nI (g1 + 1))) := by
              refine eX2.trans ?_
              show fX3_readGuild_b105 5000 (nI g1) S5 = _
              unfold fX3_readGuild_b105
              dsimp only [lt]
              rw [bnd_t i1]
              dsimp only
              rw [hU6, bnd_t j1]
              dsimp only
              rw [chk_t (inb_t hg (by decide)), nI_clamp (by omega)]
              exact eb125 _ (xr _ (X7 1 1 rfl (by omega))) ((X7 U 5 (xNu_u (by omega) (by omega)) (by omega)).trans e1)
            have eM3 : fX12_sayGuild 5000 SM = some (0, sU SM7 5 7 (nI (g1 + 1))) := by
              refine eM2.trans ?_
              show fX12_sayGuild_b79 5000 (nI (6 + g1)) M5 = _
              unfold fX12_sayGuild_b79
              rw [bnd_t i2]
              exact j2.trans (eb168 SM7 ((M7 5 7 rfl (by omega) (by omega)).trans e2))
            have T8 : tkJ B n s7 p7 k7 (sU S7 (U + 8) g1 v) SM7 := T7.on (fun j => sU_n (by omega)) (fun j => sU_n (by omega)) (fun _ _ _ => rfl) (fun _ _ => rfl)
            refine ⟨_, _, eX3, eM3, fun i j z1 z2 => ?_, fun i j z1 z2 => ?_, s7, p7, k7, tk9 _ _ _ _ _ T8, ?_⟩
            · rw [sU_n (by omega)]; exact X7 i j z1 (by omega)
            · unfold mBig at z2
              rw [sU_n (by omega)]; exact M7 i j z1 (by omega) (by omega)
            · rcases (show _ ∨ _ from j5) with ⟨F7, x1, t, x2, rfl, x4, x5, x6⟩ | h
              · have k8 : ∀ i, i ≠ U + 8 → i ≠ U → U ≤ i → i ≤ U + 8 → sU (sU S7 (U + 8) g1 (nI t)) U 5 (nI (g1 + 1)) i g1 = S5 i g1 := fun i z1 z2 z3 z4 => by
                  rw [sU_n (by omega), sU_n (by omega), j3 i g1 (xNu_u (by omega) (by omega)), i6 i g1 (xNu_f (xNu_u (by omega) (by omega))).1]
                have k9 : ∀ i, 10 ≤ i → i ≤ 12 → sU SM7 5 7 (nI (g1 + 1)) i (6 + g1) = M5 i (6 + g1) := fun i z1 z2 => by
                  rw [sU_n (by omega), j4 i _ (mNu_u (by omega)) (by omega) (by omega), i7 i _ (mNu_f (mNu_u (by omega))).1]
                have k88 : sU (sU S7 (U + 8) g1 (nI t)) U 5 (nI (g1 + 1)) (U + 8) g1 = nI t := by rw [sU_n (by omega), sU_s]
                obtain ⟨tk', h⟩ := dr_guild (S' := sU (sU S7 (U + 8) g1 (nI t)) U 5 (nI (g1 + 1))) (SM' := sU SM7 5 7 (nI (g1 + 1))) hT hg hd (fun i j z1 z2 z3 => by rw [sU_n z2]; exact X7 i j z1 z3) (fun i j z1 z2 z4 z3 => by rw [sU_n z2]; exact M7 i j z1 z4 z3) sU_s sU_s ⟨⟨o, o2, by rw [k8 _ (by omega) (by omega) (by omega) (by omega)]; exact v5, by rw [k9 _ (by omega) (by omega)]; exact w5⟩, ⟨z, z2, by rw [k8 _ (by omega) (by omega) (by omega) (by omega)]; exact v6, by rw [k9 _ (by omega) (by omega)]; exact w6⟩, ⟨y, y2, by rw [k8 _ (by omega) (by omega) (by omega) (by omega)]; exact v7, by rw [k9 _ (by omega) (by omega)]; exact w7⟩, by rw [k88, sU_n (by omega), x6], Or.inr ⟨t, x2, k88⟩⟩ (Or.inr ⟨t, x2, k88, x4, by rw [sU_n (by omega)]; exact x5⟩)
                exact Or.inl ⟨⟨⟨by rw [sU_n (by omega), sU_n (by omega)]; exact F7.1.1, by rw [sU_n (by omega), sU_n (by omega)]; exact F7.1.2⟩, by rw [sU_n (by omega)]; exact F7.2⟩, by omega, g0, g1 + 1, nw, b, c1, c2, tk', h, rfl⟩
              · refine Or.inr (fl _ _ ?_)
                obtain ⟨q, q1, q2, q3, q4, q5⟩ := h
                exact ⟨q, q1, q2, by rw [sU_n (by omega)]; exact q3, q4, by rw [sU_n (by omega)]; exact q5⟩
        · exact absurd gb1.2 (flt_x (N := 5000) ha').2.1
      · exact absurd fc1.2 (flt_x (N := 5000) hb').2.1
    · have f5 : flt S5 M5 := by
        obtain ⟨q, q1, q2, q3, q4, q5⟩ := hc'
        exact ⟨q, q1, q2, by rw [h5, sU_n (by omega)]; exact q3, by rw [m5, sU_n (by omega)]; exact q4, by rw [h5, m5, sU_n (by omega), sU_n (by omega)]; exact q5⟩
      refine ⟨_, _, ?_, ?_, fun i j z1 z2 => ?_, fun i j z1 z2 => ?_, sc, pc, kc, tk9 _ _ _ _ _ T5, Or.inr (fl _ _ f5)⟩
      · rw [eX, bnd_t (flt_x (N := 5000) f5).1]
        exact eb125 S5 hU5 q5
      · rw [eM, bnd_t (m_is0 (flt_x (N := 5000) f5).2.1)]
        exact eb168 M5 n5
      · rw [sU_n (by omega)]; exact X5 i j z1 (by omega)
      · unfold mBig at z2
        rw [sU_n (by omega)]; exact M5f i j z1 (by omega)
  · obtain rfl : g1 = 6 := by omega
    obtain ⟨S', SM', a1, a2, a3, a4⟩ := j_guildF T F (by rw [hU]; exact e1) e2
    exact ⟨S', SM', a1, a2, a4.lin a3⟩
end
end

/-! part 9795.line -/
section
section
variable {B : Nat → Nat} {n s p k U g0 g1 nw b c1 c2 tk : Nat} {S SM S' SM' S1 SM1 S2 SM2 : gS}
theorem drK.nu (hT : U = 72 ∨ U = 4) (h : drK U g0 g1 nw b c1 c2 tk S SM) (o1 : oSame xNu S S') (o2 : oSame mNu SM SM') : drK U g0 g1 nw b c1 c2 tk S' SM' := by
  obtain ⟨d1, d2, d3, d4, d5, d6⟩ := h
  have X' : ∀ i j, U ≤ i → S' i j = S i j := fun i j z => o1 i j (xNu_u (by omega) (by omega))
  have M' : ∀ i j, i ≠ 99 → SM' i j = SM i j := fun i j z => o2 i j (mNu_u z)
  exact ⟨d1.on (X' _ _ (by omega)) (fun i j _ _ => X' i j (by omega)) (M' _ _ (by omega)) (fun i j _ _ => M' i j (by omega)), d2.on (X' _ _ (by omega)) (fun i j _ _ => X' i j (by omega)) (M' _ _ (by omega)) (o2 99 30 rfl) (fun i j _ _ => M' i j (by omega)), d3.on (X' _ _ (by omega)) (fun j => X' _ j (by omega)) (M' _ _ (by omega)) (fun j => M' _ j (by omega)), d4.on (X' _ _ (by omega)) (M' _ _ (by omega)), d5.on (fun i j _ => X' i j (by omega)) (M' _ _ (by omega)) (fun j => M' _ j (by omega)), d6.on (fun i j _ => X' i j (by omega)) (M' _ _ (by omega)) (fun j => M' _ j (by omega))⟩
/-- the mark behind a LINE -/
theorem L_mark {d : Int32} (hT : U = 72 ∨ U = 4) (h : LIN B n U s S SM S1 SM1 d) : ∃ S' SM', fX3_skipSign 5000 59 S1 = some (0, S') ∧ fX12_mark 5000 59 SM1 = some (0, SM') ∧ LIN B n U s S SM S' SM' d := by
  obtain ⟨f1, f2, s', p', k', T', h⟩ := h
  rcases h with ⟨F', e, g0, g1, nw, b, c1, c2, tk, h1, h2⟩ | h
  · obtain ⟨S', SM', a1, a2, ⟨o1, o2, s2, p2, k2, T2, h3⟩, -⟩ := j_skip (x := 59) T' F'
    refine ⟨S', SM', a1, a2, fun i j z1 z2 => (o1 i j z1).trans (f1 i j z1 z2), fun i j z1 z2 => (o2 i j z1).trans (f2 i j z1 z2), s2, p2, k2, T2, ?_⟩
    rcases h3 with ⟨F2, e2, -⟩ | h3
    · exact Or.inl ⟨F2, by omega, g0, g1, nw, b, c1, c2, tk, h1.nu hT o1 o2, h2⟩
    · exact Or.inr h3
  · obtain ⟨a1, a2⟩ := j_skip0 (x := 59) T' h
    exact ⟨S1, SM1, a1, a2, f1, f2, s', p', k', T', Or.inr h⟩
theorem L_fin {RX Y : Option (Int32 × gS)} {d x3 : Int32} (hT : U = 72 ∨ U = 4) (eX : fX3_readLine 5000 S = bnd RX (fun q1 => some (0, q1.2))) (eM : fX12_readLine 5000 d SM = bnd Y (fun q1 => fX12_readLine_b132 5000 d x3 q1.2)) (h : ∃ S1 SM1, RX = some (0, S1) ∧ Y = some (0, SM1) ∧ LIN B n U s S SM S1 SM1 (d ||| x3)) : ∃ S' v SM', bnd (fX3_readLine 5000 S) (fun q1 => fX3_skipSign 5000 59 q1.2) = some (0, S') ∧ fX12_readLine 5000 d SM = some (v, SM') ∧ LIN B n U s S SM S' SM' v := by
  obtain ⟨S1, SM1, h1, h2, h3⟩ := h
  obtain ⟨S', SM', a1, a2, a3⟩ := L_mark hT h3
  refine ⟨S', d ||| x3, SM', ?_, ?_, a3⟩
  · rw [eX, bnd_t h1]
    exact a1
  · rw [eM, bnd_t h2]
    show fX12_readLine_b132 5000 d x3 SM1 = _
    unfold fX12_readLine_b132
    rw [bnd_t a2]
theorem isWl_e {l l' : List Int32} (h : isWl B k s p l = true) (h' : isWl B k s p l' = true) : l = l' := by
  unfold isWl at h h'
  simp only [Bool.and_eq_true, decide_eq_true_eq, alB_t] at h h'
  obtain ⟨-, a1, a2⟩ := h
  obtain ⟨-, b1, b2⟩ := h'
  refine List.ext_getElem (by omega) (fun i h1 h2 => ?_)
  have e1 := a2 i h1
  have e2 := b2 i h2
  rw [List.getD_eq_getElem?_getD, List.getElem?_eq_getElem h1] at e1
  rw [List.getD_eq_getElem?_getD, List.getElem?_eq_getElem h2] at e2
  exact e1.symm.trans e2
theorem isW_x {a c : Nat} (h : isW B k s p a = true) (hne : sB.getD a [] ≠ sB.getD c []) : isW B k s p c = false := by
  cases q : isW B k s p c with
  | false => rfl
  | true => exact absurd (isWl_e h q) hne
theorem m_wrong0 {q : Int32} {N : Nat} (h : SM 99 27 ≠ 0) : fX12_wrong N q SM = some (0, SM) := by
  unfold fX12_wrong fX12_wrong_b0
  rw [if_neg h]
  rfl
/-- the reference's LINE: which word stands there -/
theorem m_line {d : Int32} (T : tkJ B n s p k S SM) (F : fine S SM) : fX12_readLine 5000 d SM = fX12_readLine_b66 5000 d (owV (fun i => isW B k s p (mS 0 i)) 2) (if isW B k s p 6 = true then 1 else if isW B k s p 7 = true then 2 else if isW B k s p 8 = true then 4 else if isW B k s p 18 = true then 8 else 0) SM := by
  obtain ⟨x2, h2⟩ : ∃ z, z = owV (fun i => isW B k s p (mS 0 i)) 2 := ⟨_, rfl⟩
  have hw := m_which (l := 0) (L := 2) (Or.inl ⟨rfl, rfl⟩) T F
  rw [← h2] at hw ⊢
  have e1 : fX12_is 5000 34 SM = some (iv (isW B k s p 6), SM) := m_is (by decide) T F.2
  have e2 : fX12_is 5000 37 SM = some (iv (isW B k s p 7), SM) := m_is (by decide) T F.2
  have e3 : fX12_is 5000 38 SM = some (iv (isW B k s p 8), SM) := m_is (by decide) T F.2
  have e4 : fX12_is 5000 39 SM = some (iv (isW B k s p 18), SM) := m_is (by decide) T F.2
  have r1 : fX12_readLine 5000 d SM = if iv (isW B k s p 6) = 0 then fX12_readLine_b22 5000 d x2 SM else fX12_readLine_b18 5000 d x2 SM := by
    unfold fX12_readLine fX12_readLine_b0
    rw [bnd_t hw]
    dsimp only
    rw [bnd_t e1]
  have r2 : fX12_readLine_b22 5000 d x2 SM = if iv (isW B k s p 7) = 0 then fX12_readLine_b36 5000 d x2 SM else fX12_readLine_b32 5000 d x2 SM := by
    unfold fX12_readLine_b22
    rw [bnd_t e2]
  have r3 : fX12_readLine_b36 5000 d x2 SM = if iv (isW B k s p 8) = 0 then fX12_readLine_b50 5000 d x2 SM else fX12_readLine_b46 5000 d x2 SM := by
    unfold fX12_readLine_b36
    rw [bnd_t e3]
  have r4 : fX12_readLine_b50 5000 d x2 SM = if iv (isW B k s p 18) = 0 then fX12_readLine_b65 5000 d x2 SM else fX12_readLine_b60 5000 d x2 SM := by
    unfold fX12_readLine_b50
    rw [bnd_t e4]
  rw [r1, r2, r3, r4]
  cases isW B k s p 6 with
  | true => rfl
  | false =>
    cases isW B k s p 7 with
    | true => rfl
    | false =>
      cases isW B k s p 8 with
      | true => rfl
      | false =>
        cases isW B k s p 18 with
        | true => rfl
        | false => rfl
theorem iv_ite {α : Type} {b : Bool} {x y : α} : (if iv b = 0 then x else y) = if b = true then y else x := by
  cases b <;> rfl
theorem x_lb {N : Nat} : (fX3_readLine_b12 N S = bnd (fX3_readGrotto N 0 S) (fun q1 => some (0, q1.2))) ∧ (fX3_readLine_b32 N S = bnd (fX3_readGrotto N 1 S) (fun q1 => some (0, q1.2))) ∧ (fX3_readLine_b52 N S = bnd (fX3_readGuild N S) (fun q1 => some (0, q1.2))) ∧ (fX3_readLine_b71 N S = bnd (fX3_readWet N S) (fun q1 => some (0, q1.2))) ∧ (fX3_readLine_b90 N S = bnd (fX3_readBound N S) (fun q1 => some (0, q1.2))) ∧ (fX3_readLine_b109 N S = bnd (fX3_readRule N (xdr S + 10) S) (fun q1 => some (0, q1.2))) ∧ (fX3_readLine_b135 N S = bnd (fX3_readRule N (xdr S + 13) S) (fun q1 => some (0, q1.2))) ∧ (fX3_readLine_b149 N S = bnd (fX3_refuse N 1 S) (fun q1 => some (0, q1.2))) := ⟨rfl, rfl, rfl, rfl, rfl, rfl, rfl, rfl⟩
theorem x_line (T : tkJ B n s p k S SM) : fX3_readLine 5000 S = if isW B k s p 2 = true then bnd (fX3_readGrotto 5000 0 S) (fun q1 => some (0, q1.2)) else if isW B k s p 3 = true then bnd (fX3_readGrotto 5000 1 S) (fun q1 => some (0, q1.2)) else if isW B k s p 4 = true then bnd (fX3_readGuild 5000 S) (fun q1 => some (0, q1.2)) else if isW B k s p 6 = true then bnd (fX3_readWet 5000 S) (fun q1 => some (0, q1.2)) else if isW B k s p 7 = true then bnd (fX3_readBound 5000 S) (fun q1 => some (0, q1.2)) else if isW B k s p 8 = true then bnd (fX3_readRule 5000 (xdr S + 10) S) (fun q1 => some (0, q1.2)) else if isW B k s p 18 = true then bnd (fX3_readRule 5000 (xdr S + 13) S) (fun q1 => some (0, q1.2)) else bnd (fX3_refuse 5000 1 S) (fun q1 => some (0, q1.2)) := by
  have r1 : fX3_readLine 5000 S = if iv (isW B k s p 2) = 0 then fX3_readLine_b20 5000 S else fX3_readLine_b12 5000 S := by
    unfold fX3_readLine fX3_readLine_b0
    rw [bnd_t (x_isAtWord (by decide) T)]
  have r2 : fX3_readLine_b20 5000 S = if iv (isW B k s p 3) = 0 then fX3_readLine_b40 5000 S else fX3_readLine_b32 5000 S := by
    unfold fX3_readLine_b20
    rw [bnd_t (x_isAtWord (by decide) T)]
  have r3 : fX3_readLine_b40 5000 S = if iv (isW B k s p 4) = 0 then fX3_readLine_b59 5000 S else fX3_readLine_b52 5000 S := by
    unfold fX3_readLine_b40
    rw [bnd_t (x_isAtWord (by decide) T)]
  have r4 : fX3_readLine_b59 5000 S = if iv (isW B k s p 6) = 0 then fX3_readLine_b78 5000 S else fX3_readLine_b71 5000 S := by
    unfold fX3_readLine_b59
    rw [bnd_t (x_isAtWord (by decide) T)]
  have r5 : fX3_readLine_b78 5000 S = if iv (isW B k s p 7) = 0 then fX3_readLine_b97 5000 S else fX3_readLine_b90 5000 S := by
    unfold fX3_readLine_b78
    rw [bnd_t (x_isAtWord (by decide) T)]
  have r6 : fX3_readLine_b97 5000 S = if iv (isW B k s p 8) = 0 then fX3_readLine_b123 5000 S else fX3_readLine_b109 5000 S := by
    unfold fX3_readLine_b97
    rw [bnd_t (x_isAtWord (by decide) T)]
  have r7 : fX3_readLine_b123 5000 S = if iv (isW B k s p 18) = 0 then fX3_readLine_b149 5000 S else fX3_readLine_b135 5000 S := by
    unfold fX3_readLine_b123
    rw [bnd_t (x_isAtWord (by decide) T)]
  obtain ⟨s1, s2, s3, s4, s5, s6, s7, s8⟩ := x_lb (S := S) (N := 5000)
  rw [r1, iv_ite, s1, r2, iv_ite, s2, r3, iv_ite, s3, r4, iv_ite, s4, r5, iv_ite, s5, r6, iv_ite, s6, r7, iv_ite, s7, s8]
end
end

/-! part 9796.lineall -/
section
section
variable {B : Nat → Nat} {n s p k U g0 g1 nw b c1 c2 tk : Nat} {S SM S' SM' S1 SM1 S2 SM2 : gS}
theorem and00 (d : Int32) : (0 : Int32) &&& d = 0 := bb_ext (fun i _ => by rw [bb_and, bb_0, Bool.false_and])
/-- told twice -/
theorem L_twice {RX : Option (Int32 × gS)} {d x3 : Int32} (hT : U = 72 ∨ U = 4) (T : tkJ B n s p k S SM) (F : fine S SM) (h3 : ¬ x3 ≤ 0) (hb : ¬ (x3 &&& d) = 0) (eX : fX3_readLine 5000 S = bnd RX (fun q1 => some (0, q1.2))) (eM : fX12_readLine 5000 d SM = fX12_readLine_b66 5000 d (-1) x3 SM) (hR : ∀ S', fX3_refuse 5000 5 S = some (0, S') → RX = some (0, S')) : ∃ S' v SM', bnd (fX3_readLine 5000 S) (fun q1 => fX3_skipSign 5000 59 q1.2) = some (0, S') ∧ fX12_readLine 5000 d SM = some (v, SM') ∧ LIN B n U s S SM S' SM' v := by
  obtain ⟨S1, SM1, a1, a2, a3, a4⟩ := j_refuse (q := 5) (G := False) (by decide) T F
  have hb5 := (flt_x (N := 5000) a3).2.1
  refine L_fin hT eX (Y := fX12_wrong 5000 5 SM) (x3 := x3) (eM.trans ?_) ⟨S1, SM1, hR S1 a1, a2, a4.lin a3⟩
  unfold fX12_readLine_b66
  rw [if_neg hb]
  unfold fX12_readLine_b73
  rw [bnd_t (show fX12_wrong 5000 5 SM = _ from a2), bnd_t (show fX12_wrong 5000 5 SM = _ from a2)]
  show fX12_readLine_b78 5000 d (-1) x3 SM1 = fX12_readLine_b132 5000 d x3 SM1
  unfold fX12_readLine_b78
  rw [if_neg h3]
  unfold fX12_readLine_b82
  rw [if_neg hb5]
  unfold fX12_readLine_b97
  rw [if_pos rfl]
  unfold fX12_readLine_b110
  rw [bnd_t (m_is0 hb5)]
  show fX12_readLine_b127 5000 d x3 SM1 = _
  unfold fX12_readLine_b127
  rw [bnd_t (m_wrong0 hb5)]
/-- a LINE, with its mark -/
theorem L_line (hd : drK U g0 g1 nw b c1 c2 tk S SM) (hU : xdr S = U) (T : tkJ B n s p k S SM) (F : fine S SM) (k0 : k ≠ 0) : ∃ S' v SM', bnd (fX3_readLine 5000 S) (fun q1 => fX3_skipSign 5000 59 q1.2) = some (0, S') ∧ fX12_readLine 5000 (doneV nw b c1 c2) SM = some (v, SM') ∧ LIN B n U s S SM S' SM' v := by
  have hT := xdr_cases (S := S)
  rw [hU] at hT
  have eX := x_line T
  have eM := m_line (d := doneV nw b c1 c2) T F
  obtain ⟨⟨n1, n2, n4, n8⟩, o0, o1, o2, o4, o8⟩ := dnB (nw := nw) (b := b) (c1 := c1) (c2 := c2)
  have zero : ∀ x2, fX12_readLine_b66 5000 (doneV nw b c1 c2) x2 0 SM = fX12_readLine_b97 5000 (doneV nw b c1 c2) x2 0 SM := by
    intro x2
    unfold fX12_readLine_b66
    rw [if_pos (and00 _)]
    unfold fX12_readLine_b78
    rw [if_pos (by decide)]
  have once : ∀ x3 : Int32, ¬ x3 ≤ 0 → (x3 &&& doneV nw b c1 c2) = 0 → fX12_readLine_b66 5000 (doneV nw b c1 c2) (-1) x3 SM = bnd (fX12_sayOnce 5000 x3 SM) (fun q1 => fX12_readLine_b132 5000 (doneV nw b c1 c2) x3 q1.2) := by
    intro x3 z1 z2
    unfold fX12_readLine_b66
    rw [if_pos z2]
    unfold fX12_readLine_b78
    rw [if_neg z1]
    unfold fX12_readLine_b82
    rw [if_pos F.2]
    rfl
  cases h2 : isW B k s p 2 with
  | true =>
    rw [if_pos h2] at eX
    have x2 : owV (fun i => isW B k s p (mS 0 i)) 2 = 0 := (owV_an (v := nI 0) (Or.inl ⟨0, by omega, h2, fun j hj => absurd hj (by omega), rfl⟩)).symm
    rw [x2, isW_x h2 (show sB.getD 2 [] ≠ sB.getD 6 [] by decide), isW_x h2 (show sB.getD 2 [] ≠ sB.getD 7 [] by decide), isW_x h2 (show sB.getD 2 [] ≠ sB.getD 8 [] by decide), isW_x h2 (show sB.getD 2 [] ≠ sB.getD 18 [] by decide)] at eM
    refine L_fin hT eX (Y := fX12_sayCave 5000 0 SM) (x3 := 0) ((eM.trans (zero 0)).trans ?_) ?_
    · unfold fX12_readLine_b97
      rw [if_neg (by decide)]
      rfl
    · rw [o0]
      exact L_cave (x := 0) (by omega) hd hU T F k0
  | false =>
    rw [if_neg (by rw [h2]; decide)] at eX
    cases h3 : isW B k s p 3 with
    | true =>
      rw [if_pos h3] at eX
      have low : ∀ j, j < 1 → isW B k s p (mS 0 j) = false := fun j hj => by
        obtain rfl : j = 0 := by omega
        exact h2
      have x2 : owV (fun i => isW B k s p (mS 0 i)) 2 = 1 := (owV_an (v := nI 1) (Or.inl ⟨1, by omega, h3, low, rfl⟩)).symm
      rw [x2, isW_x h3 (show sB.getD 3 [] ≠ sB.getD 6 [] by decide), isW_x h3 (show sB.getD 3 [] ≠ sB.getD 7 [] by decide), isW_x h3 (show sB.getD 3 [] ≠ sB.getD 8 [] by decide), isW_x h3 (show sB.getD 3 [] ≠ sB.getD 18 [] by decide)] at eM
      refine L_fin hT eX (Y := fX12_sayCave 5000 1 SM) (x3 := 0) ((eM.trans (zero 1)).trans ?_) ?_
      · unfold fX12_readLine_b97
        rw [if_neg (by decide)]
        rfl
      · rw [o0]
        exact L_cave (x := 1) (by omega) hd hU T F k0
    | false =>
      rw [if_neg (by rw [h3]; decide)] at eX
      have x2 : owV (fun i => isW B k s p (mS 0 i)) 2 = -1 := (owV_an (Or.inr ⟨fun j hj => by
        rcases (show j = 0 ∨ j = 1 by omega) with rfl | rfl
        · exact h2
        · exact h3, rfl⟩)).symm
      rw [x2] at eM
      have none' : ∀ w, isW B k s p 4 = w → fX12_readLine_b97 5000 (doneV nw b c1 c2) (-1) 0 SM = if iv w = 0 then fX12_readLine_b127 5000 (doneV nw b c1 c2) 0 SM else fX12_readLine_b120 5000 (doneV nw b c1 c2) 0 SM := by
        intro w hw
        unfold fX12_readLine_b97
        rw [if_pos rfl]
        unfold fX12_readLine_b110
        rw [bnd_t (show fX12_is 5000 43 SM = some (iv (isW B k s p 4), SM) from m_is (by decide) T F.2), hw]
      cases h4 : isW B k s p 4 with
      | true =>
        rw [if_pos h4] at eX
        rw [isW_x h4 (show sB.getD 4 [] ≠ sB.getD 6 [] by decide), isW_x h4 (show sB.getD 4 [] ≠ sB.getD 7 [] by decide), isW_x h4 (show sB.getD 4 [] ≠ sB.getD 8 [] by decide), isW_x h4 (show sB.getD 4 [] ≠ sB.getD 18 [] by decide)] at eM
        refine L_fin hT eX (Y := fX12_sayGuild 5000 SM) (x3 := 0) ((eM.trans (zero (-1))).trans (none' true h4)) ?_
        rw [o0]
        exact L_guild hd hU T F k0
      | false =>
        rw [if_neg (by rw [h4]; decide)] at eX
        cases h6 : isW B k s p 6 with
        | true =>
          rw [if_pos h6] at eX
          rw [if_pos h6] at eM
          by_cases q : nw = 0
          · subst q
            refine L_fin hT eX (x3 := 1) (eM.trans (once 1 (by decide) (n1.mpr rfl))) ?_
            rw [o1]
            exact L_wet hd hU T F k0
          · exact L_twice hT T F (by decide) (fun z => q (n1.mp z)) eX eM (fun S' a => (x_twice (r := 0) a).2.2 nw (by omega) (by have := hd.2.2.1.2.2.1; omega) (by rw [hU]; exact hd.2.2.1.1))
        | false =>
          rw [if_neg (by rw [h6]; decide)] at eX
          rw [if_neg (by rw [h6]; decide)] at eM
          cases h7 : isW B k s p 7 with
          | true =>
            rw [if_pos h7] at eX
            rw [if_pos h7] at eM
            by_cases q : b = 0
            · subst q
              refine L_fin hT eX (x3 := 2) (eM.trans (once 2 (by decide) (n2.mpr rfl))) ?_
              rw [o2]
              exact L_bound hd hU T F k0
            · exact L_twice hT T F (by decide) (fun z => q (n2.mp z)) eX eM (fun S' a => (x_twice (r := 0) a).2.1 b (by omega) (by have := hd.2.2.2.1.2.1; omega) (by rw [hU]; exact hd.2.2.2.1.1))
          | false =>
            rw [if_neg (by rw [h7]; decide)] at eX
            rw [if_neg (by rw [h7]; decide)] at eM
            cases h8 : isW B k s p 8 with
            | true =>
              rw [if_pos h8, hU] at eX
              rw [if_pos h8] at eM
              by_cases q : c1 = 0
              · subst q
                refine L_fin hT eX (x3 := 4) (eM.trans (once 4 (by decide) (n4.mpr rfl))) ?_
                rw [o4]
                exact L_prays hd hU T F k0
              · obtain ⟨⟨D, ⟨r1, -, r3, -⟩, -⟩, -⟩ := hd.2.2.2.2.1
                exact L_twice hT T F (by decide) (fun z => q (n4.mp z)) eX eM (fun S' a => (x_twice (r := U + 10) a).1 c1 (by omega) (by omega) r1)
            | false =>
              rw [if_neg (by rw [h8]; decide)] at eX
              rw [if_neg (by rw [h8]; decide)] at eM
              cases h9 : isW B k s p 18 with
              | true =>
                rw [if_pos h9, hU] at eX
                rw [if_pos h9] at eM
                by_cases q : c2 = 0
                · subst q
                  refine L_fin hT eX (x3 := 8) (eM.trans (once 8 (by decide) (n8.mpr rfl))) ?_
                  rw [o8]
                  exact L_costs hd hU T F k0
                · obtain ⟨⟨D, ⟨r1, -, r3, -⟩, -⟩, -⟩ := hd.2.2.2.2.2
                  exact L_twice hT T F (by decide) (fun z => q (n8.mp z)) eX eM (fun S' a => (x_twice (r := U + 13) a).1 c2 (by omega) (by omega) r1)
              | false =>
                rw [if_neg (by rw [h9]; decide)] at eX
                rw [if_neg (by rw [h9]; decide)] at eM
                obtain ⟨S1, SM1, a1, a2, a3, a4⟩ := j_refuse (q := 1) (G := False) (by decide) T F
                refine L_fin hT eX (Y := fX12_wrong 5000 1 SM) (x3 := 0) ((eM.trans (zero (-1))).trans (none' false h4)) ⟨S1, SM1, a1, a2, a4.lin a3⟩
end
end

/-! part 9797.loop -/
section
theorem bnd_as {α β γ : Type} {x : Option α} {f : α → Option β} {g : β → Option γ} : bnd x (fun a => bnd (f a) g) = bnd (bnd x f) g := by
  cases x <;> rfl
section
variable {B : Nat → Nat} {n U : Nat}
/-- all the LINES -/
theorem L_lines (hT : U = 72 ∨ U = 4) : ∀ (m f f' i : Nat) (S SM : gS) (s p k g0 g1 nw b c1 c2 tk : Nat), n - s ≤ m → m < f → m < f' → tkJ B n s p k S SM → fine S SM → drK U g0 g1 nw b c1 c2 tk S SM → xdr S = U → i ≤ s → ∃ S' SM', fX3_read_h27 5000 f (nI i) S = some (S' 1 2, S') ∧ fX12_port_h93 5000 f' (doneV nw b c1 c2) SM = fX12_port_b116 5000 SM' ∧ fLx U S S' ∧ fLm SM SM' ∧ ((fine S' SM' ∧ ∃ g0 g1 nw b c1 c2 tk, drK U g0 g1 nw b c1 c2 tk S' SM') ∨ flt S' SM') := by
  have stop : ∀ (f f' i : Nat) (S SM : gS) (s p g0 g1 nw b c1 c2 tk : Nat), tkJ B n s p 0 S SM → fine S SM → drK U g0 g1 nw b c1 c2 tk S SM → ∃ S' SM', fX3_read_h27 5000 (f + 1) (nI i) S = some (S' 1 2, S') ∧ fX12_port_h93 5000 (f' + 1) (doneV nw b c1 c2) SM = fX12_port_b116 5000 SM' ∧ fLx U S S' ∧ fLm SM SM' ∧ ((fine S' SM' ∧ ∃ g0 g1 nw b c1 c2 tk, drK U g0 g1 nw b c1 c2 tk S' SM') ∨ flt S' SM') := by
    intro f f' i S SM s p g0 g1 nw b c1 c2 tk T F D
    have e4 : S 2 4 = 0 := T.2.1.2.2.2
    have m4 : SM 99 23 = 0 := T.2.2.1.2.2.2.2
    refine ⟨S, SM, ?_, ?_, fun _ _ _ _ => rfl, fun _ _ _ _ => rfl, Or.inl ⟨F, g0, g1, nw, b, c1, c2, tk, D⟩⟩
    · show fX3_read_b27 5000 (fX3_read_h27 5000 f) (nI i) S = _
      unfold fX3_read_b27
      by_cases h7 : (700 : Int32) ≤ nI i
      · rw [if_pos h7]
        rfl
      · rw [if_neg h7]
        unfold fX3_read_b34
        rw [bnd_t (fine_x F)]
        show fX3_read_b41 5000 (fX3_read_h27 5000 f) (nI i) S = _
        unfold fX3_read_b41
        rw [if_pos e4]
        rfl
    · show fX12_port_b93 5000 (fX12_port_h93 5000 f') (doneV nw b c1 c2) SM = _
      unfold fX12_port_b93
      rw [if_pos F.2]
      unfold fX12_port_b100
      rw [if_pos m4]
  intro m
  induction m with
  | zero =>
    intro f f' i S SM s p k g0 g1 nw b c1 c2 tk hm hf hf' T F D hU hi
    obtain ⟨f, rfl⟩ : ∃ y, f = y + 1 := ⟨f - 1, by omega⟩
    obtain ⟨f', rfl⟩ : ∃ y, f' = y + 1 := ⟨f' - 1, by omega⟩
    have hk := T.2.2.2.1
    unfold tkK at hk
    obtain rfl : k = 0 := by
      by_cases z : k = 0
      · exact z
      · have := hk.2.2.2.2 z
        omega
    exact stop f f' i S SM s p g0 g1 nw b c1 c2 tk T F D
  | succ m ih =>
    intro f f' i S SM s p k g0 g1 nw b c1 c2 tk hm hf hf' T F D hU hi
    obtain ⟨f, rfl⟩ : ∃ y, f = y + 2 := ⟨f - 2, by omega⟩
    obtain ⟨f', rfl⟩ : ∃ y, f' = y + 2 := ⟨f' - 2, by omega⟩
    by_cases k0 : k = 0
    · subst k0
      exact stop (f + 1) (f' + 1) i S SM s p g0 g1 nw b c1 c2 tk T F D
    · have hk := T.2.2.2.1
      unfold tkK at hk
      have hsp := hk.2.2.2.2 k0
      have i7 : i < 700 := by
        by_cases z : i < 700
        · exact z
        · exact absurd (far_k T hi (by omega)) k0
      have e4 : ¬ S 2 4 = 0 := by
        rw [T.2.1.2.2.2]
        exact fun z => k0 ((nI_eq (b := 0) (by omega) (by omega)).mp z)
      have m4 : ¬ SM 99 23 = 0 := by
        rw [T.2.2.1.2.2.2.2]
        exact fun z => k0 ((nI_eq (b := 0) (by omega) (by omega)).mp z)
      obtain ⟨S1, v, SM1, a1, a2, f1, f2, s1, p1, k1, T1, h⟩ := L_line D hU T F k0
      replace h : hid _ := h
      have eX : fX3_read_h27 5000 (f + 2) (nI i) S = fX3_read_h27 5000 (f + 1) (nI (i + 1)) S1 := by
        show fX3_read_b27 5000 (fX3_read_h27 5000 (f + 1)) (nI i) S = _
        unfold fX3_read_b27
        rw [if_neg (show ¬ (700 : Int32) ≤ nI i from nI_ge (b := 700) i7 (by decide))]
        unfold fX3_read_b34
        rw [bnd_t (fine_x F)]
        show fX3_read_b41 5000 (fX3_read_h27 5000 (f + 1)) (nI i) S = _
        unfold fX3_read_b41
        rw [if_neg e4]
        unfold fX3_read_b51
        refine (bnd_as (x := fX3_readLine 5000 S) (f := fun q1 => fX3_skipSign 5000 59 q1.2) (g := fun q2 => fX3_read_h27 5000 (f + 1) (nI i + 1) q2.2)).trans ?_
        rw [bnd_t a1, nI_1 i]
      have eM : fX12_port_h93 5000 (f' + 2) (doneV nw b c1 c2) SM = fX12_port_h93 5000 (f' + 1) v SM1 := by
        show fX12_port_b93 5000 (fX12_port_h93 5000 (f' + 1)) (doneV nw b c1 c2) SM = _
        unfold fX12_port_b93
        rw [if_pos F.2]
        unfold fX12_port_b100
        rw [if_neg m4]
        unfold fX12_port_b107
        rw [bnd_t a2]
      rw [eX, eM]
      rcases (show _ ∨ _ from h) with ⟨F1, e1, g0', g1', nw', b', c1', c2', tk', D1, rfl⟩ | h
      · have hU1 : xdr S1 = U := (xdr_on (f1 1 1 rfl (by omega))).trans hU
        obtain ⟨S', SM', r1, r2, r3, r4, r5⟩ := ih (f + 1) (f' + 1) (i + 1) S1 SM1 s1 p1 k1 g0' g1' nw' b' c1' c2' tk' (by omega) (by omega) (by omega) T1 F1 D1 hU1 (by omega)
        exact ⟨S', SM', r1, r2, f1.tr r3, f2.tr r4, r5⟩
      · refine ⟨S1, SM1, ?_, ?_, f1, f2, Or.inr h⟩
        · show fX3_read_b27 5000 (fX3_read_h27 5000 f) (nI (i + 1)) S1 = _
          unfold fX3_read_b27
          by_cases h7 : (700 : Int32) ≤ nI (i + 1)
          · rw [if_pos h7]
            rfl
          · rw [if_neg h7]
            unfold fX3_read_b34
            rw [bnd_t (flt_x (N := 5000) h).1]
            rfl
        · show fX12_port_b93 5000 (fX12_port_h93 5000 f') v SM1 = _
          unfold fX12_port_b93
          rw [if_neg (flt_x (N := 5000) h).2.1]
/-- the six that begin anew -/
theorem p55 {i f : Nat} {S : gS} (hi : i < 6) : fX12_port_h55 5000 (f + 1) (nI i) S = fX12_port_h55 5000 f (nI (i + 1)) (sU S 5 (6 + i) (if i = 2 then 70 else 0)) := by
  have e6 : (6 : Int32) + nI i = nI (6 + i) := by rw [show (6 : Int32) = nI 6 from rfl, nI_add]
  have b80 : ∀ x : Int32, fX12_port_b80 5000 (fX12_port_h55 5000 f) (nI i) (nI (6 + i)) x S = fX12_port_h55 5000 f (nI (i + 1)) (sU S 5 (6 + i) x) := by
    intro x
    unfold fX12_port_b80
    rw [chk_t (inb_t (by omega) (by decide)), nI_clamp (by omega), nI_1 i]
    rfl
  show fX12_port_b55 5000 (fX12_port_h55 5000 f) (nI i) S = _
  unfold fX12_port_b55
  rw [if_neg (show ¬ (6 : Int32) ≤ nI i from nI_ge (b := 6) hi (by decide))]
  unfold fX12_port_b61
  rw [e6]
  by_cases q : i = 2
  · rw [if_pos (show nI i = 2 by rw [q]; rfl), if_pos q]
    exact b80 70
  · rw [if_neg (show ¬ nI i = 2 from fun z => q ((nI_eq (b := 2) (by omega) (by omega)).mp z)), if_neg q]
    exact b80 0
theorem p55_all {f : Nat} {S : gS} : fX12_port_h55 5000 (f + 7) 0 S = fX12_port_b87 5000 (sU (sU (sU (sU (sU (sU S 5 6 0) 5 7 0) 5 8 70) 5 9 0) 5 10 0) 5 11 0) :=
  (p55 (i := 0) (f := f + 6) (by decide)).trans ((p55 (i := 1) (f := f + 5) (by decide)).trans ((p55 (i := 2) (f := f + 4) (by decide)).trans ((p55 (i := 3) (f := f + 3) (by decide)).trans ((p55 (i := 4) (f := f + 2) (by decide)).trans ((p55 (i := 5) (f := f + 1) (by decide)).trans rfl)))))
theorem x_clear0 {N : Nat} {S : gS} : fX9_clear N U S = some (0, sU (sU (sU (sU (sU (sU S U 0 0) U 5 0) U 10 0) U 12 0) (U + 10) 3 0) (U + 13) 3 0) := rfl
theorem x_open0 {N : Nat} {S S1 : gS} {x y : Int32} (h1 : S 2 1 = y) (h2 : ¬ y < x) (a : fX8_advance N (sU (sU S 2 2 x) 2 3 0) = some (0, S1)) : fX8_open N x S = some (0, S1) := by
  unfold fX8_open fX8_open_b0
  dsimp only [lt]
  rw [h1, if_neg h2, bnd_t a]
theorem x_read0 {N : Nat} {S S0 S1 : gS} {x : Int32} (hU : xdr S = U) (ec : fX9_clear N U S = some (0, S0)) (eo : fX8_open N x (sU (sU S0 1 2 0) 1 3 (-1)) = some (0, S1)) : fX3_read N x S = fX3_read_h27 N N (nI 0) S1 := by
  unfold fX3_read fX3_read_b0
  dsimp only [lt]
  rw [hU, bnd_t ec]
  dsimp only
  rw [bnd_t eo]
  rfl
theorem m_port0 {N : Nat} {SM : gS} {x : Int32} (h1 : ¬ x < 0) (h2 : x ≤ SM 99 20) : fX12_port N x SM = fX12_port_h55 N N 0 (sU (sU (sU (sU (sU (sU (sU SM 99 4 0) 99 20 0) 99 22 x) 99 21 0) 99 27 0) 99 30 0) 99 29 (-1)) := by
  unfold fX12_port fX12_port_b0
  dsimp only [lt]
  rw [if_neg h1]
  unfold fX12_port_b9
  rw [if_pos (show x ≤ sU SM 99 4 0 99 20 by rw [sU_n (by omega)]; exact h2)]
  rfl
theorem m_port1 {N : Nat} {SM SM1 : gS} (a : fX12_stepOn N SM = some (0, SM1)) : fX12_port_b87 N SM = fX12_port_h93 N N (doneV 0 0 0 0) SM1 := by
  unfold fX12_port_b87
  rw [bnd_t a]
  rfl
/-- the whole tape is read -/
theorem j_read {N0 : Nat} {S SM : gS} (hn : n ≤ N0) (h7 : N0 ≤ 700) (h21 : S 2 1 = nI N0) (m20 : SM 99 20 = nI N0) (hby : ∀ i, i < N0 → ∃ x : Nat, x < 256 ∧ (S 3 i &&& 255) = nI x ∧ SM 19 i = nI x) (hU : xdr S = U) (hr : S (U + 10) 2 = 0 ∧ S (U + 13) 2 = 1) : ∃ S' SM', fX3_read 5000 (nI n) S = some (S' 1 2, S') ∧ fX12_port 5000 (nI n) SM = fX12_port_b116 5000 SM' ∧ (∀ i j, xNu i j = false → ¬ (U ≤ i ∧ i < U + 16) ∨ ((i = U + 10 ∨ i = U + 13) ∧ j = 2) → ¬ (i = 2 ∧ j = 2) → S' i j = S i j) ∧ (∀ i j, mNu i j = false → ¬ mBig i j → ¬ (i = 99 ∧ (j = 4 ∨ j = 20 ∨ j = 22 ∨ j = 29)) → SM' i j = SM i j) ∧ SM' 99 4 = 0 ∧ SM' 99 20 = 0 ∧ SM' 99 29 = -1 ∧ ((fine S' SM' ∧ ∃ g0 g1 nw b c1 c2 tk, drK U g0 g1 nw b c1 c2 tk S' SM') ∨ flt S' SM') := by
  have hT := xdr_cases (S := S)
  rw [hU] at hT
  obtain ⟨S0, hS0⟩ : ∃ z, z = sU (sU (sU (sU (sU (sU S U 0 0) U 5 0) U 10 0) U 12 0) (U + 10) 3 0) (U + 13) 3 0 := ⟨_, rfl⟩
  obtain ⟨S2, hS2⟩ : ∃ z, z = sU (sU (sU (sU S0 1 2 0) 1 3 (-1)) 2 2 (nI n)) 2 3 0 := ⟨_, rfl⟩
  obtain ⟨M0, hM0⟩ : ∃ z, z = sU (sU (sU (sU (sU (sU (sU SM 99 4 0) 99 20 0) 99 22 (nI n)) 99 21 0) 99 27 0) 99 30 0) 99 29 (-1) := ⟨_, rfl⟩
  obtain ⟨M2, hM2⟩ : ∃ z, z = sU (sU (sU (sU (sU (sU M0 5 6 0) 5 7 0) 5 8 70) 5 9 0) 5 10 0) 5 11 0 := ⟨_, rfl⟩
  have k0 : ∀ i j, ¬ (i = U ∧ (j = 0 ∨ j = 5 ∨ j = 10 ∨ j = 12)) → ¬ ((i = U + 10 ∨ i = U + 13) ∧ j = 3) → S0 i j = S i j := fun i j z1 z2 => by
    rw [hS0, sU_n (by omega), sU_n (by omega), sU_n (by omega), sU_n (by omega), sU_n (by omega), sU_n (by omega)]
  have k2 : ∀ i j, ¬ (i = 1 ∧ (j = 2 ∨ j = 3)) → ¬ (i = 2 ∧ (j = 2 ∨ j = 3)) → S2 i j = S0 i j := fun i j z1 z2 => by
    rw [hS2, sU_n (by omega), sU_n (by omega), sU_n (by omega), sU_n (by omega)]
  have l0 : ∀ i j, ¬ (i = 99 ∧ (j = 4 ∨ j = 20 ∨ j = 22 ∨ j = 21 ∨ j = 27 ∨ j = 30 ∨ j = 29)) → M0 i j = SM i j := fun i j z1 => by
    rw [hM0, sU_n (by omega), sU_n (by omega), sU_n (by omega), sU_n (by omega), sU_n (by omega), sU_n (by omega), sU_n (by omega)]
  have l2 : ∀ i j, ¬ (i = 5 ∧ 6 ≤ j) → M2 i j = M0 i j := fun i j z1 => by
    rw [hM2, sU_n (by omega), sU_n (by omega), sU_n (by omega), sU_n (by omega), sU_n (by omega), sU_n (by omega)]
  have y0 : S0 U 0 = 0 := by rw [hS0, sU_n (by omega), sU_n (by omega), sU_n (by omega), sU_n (by omega), sU_n (by omega), sU_s]
  have y5 : S0 U 5 = 0 := by rw [hS0, sU_n (by omega), sU_n (by omega), sU_n (by omega), sU_n (by omega), sU_s]
  have y10 : S0 U 10 = 0 := by rw [hS0, sU_n (by omega), sU_n (by omega), sU_n (by omega), sU_s]
  have y12 : S0 U 12 = 0 := by rw [hS0, sU_n (by omega), sU_n (by omega), sU_s]
  have yr1 : S0 (U + 10) 3 = 0 := by rw [hS0, sU_n (by omega), sU_s]
  have yr2 : S0 (U + 13) 3 = 0 := by rw [hS0, sU_s]
  have w22 : M0 99 22 = nI n := by rw [hM0, sU_n (by omega), sU_n (by omega), sU_n (by omega), sU_n (by omega), sU_s]
  have w21 : M0 99 21 = 0 := by rw [hM0, sU_n (by omega), sU_n (by omega), sU_n (by omega), sU_s]
  have w27 : M0 99 27 = 0 := by rw [hM0, sU_n (by omega), sU_n (by omega), sU_s]
  have w30 : M0 99 30 = 0 := by rw [hM0, sU_n (by omega), sU_s]
  have w29 : M0 99 29 = -1 := by rw [hM0, sU_s]
  have w20 : M0 99 20 = 0 := by rw [hM0, sU_n (by omega), sU_n (by omega), sU_n (by omega), sU_n (by omega), sU_n (by omega), sU_s]
  have w4 : M0 99 4 = 0 := by rw [hM0, sU_n (by omega), sU_n (by omega), sU_n (by omega), sU_n (by omega), sU_n (by omega), sU_n (by omega), sU_s]
  have by2 : byJ (fun i => (SM 19 i).toNatClampNeg) n S2 M2 := by
    refine ⟨by omega, fun i hi => ?_⟩
    obtain ⟨x, x1, x2, x3⟩ := hby i (by omega)
    rw [k2 3 i (by omega) (by omega), k0 3 i (by omega) (by omega), l2 19 i (by omega), l0 19 i (by omega)]
    dsimp only
    rw [x3, nI_clamp (by omega)]
    exact ⟨x1, x2, rfl⟩
  obtain ⟨S1, SM1, s1, p1, k1, a1, a2, T1, -, a4, a5⟩ := j_step (p := 0) by2 (by omega) (by rw [hS2, sU_n (by omega), sU_s]) (by rw [hS2]; exact sU_s) (by rw [l2 99 22 (by omega)]; exact w22) (by rw [l2 99 21 (by omega)]; exact w21)
  have F1 : fine S1 SM1 := by
    refine ⟨⟨?_, ?_⟩, ?_⟩
    · rw [a4 1 2 rfl, hS2, sU_n (by omega), sU_n (by omega), sU_n (by omega), sU_s]
    · rw [a4 1 3 rfl, hS2, sU_n (by omega), sU_n (by omega), sU_s]
    · rw [a5 99 27 rfl, l2 99 27 (by omega)]; exact w27
  have xS : ∀ i j, U ≤ i → S1 i j = S0 i j := fun i j z => by
    rw [a4 i j (xNu_f (xNu_u (by omega) (by omega))).1]
    exact k2 i j (by omega) (by omega)
  have xM : ∀ j, SM1 5 j = M2 5 j := fun j => a5 5 j rfl
  have v6 : M2 5 6 = 0 := by rw [hM2, sU_n (by omega), sU_n (by omega), sU_n (by omega), sU_n (by omega), sU_n (by omega), sU_s]
  have v7 : M2 5 7 = 0 := by rw [hM2, sU_n (by omega), sU_n (by omega), sU_n (by omega), sU_n (by omega), sU_s]
  have v8 : M2 5 8 = 70 := by rw [hM2, sU_n (by omega), sU_n (by omega), sU_n (by omega), sU_s]
  have v9 : M2 5 9 = 0 := by rw [hM2, sU_n (by omega), sU_n (by omega), sU_s]
  have v10 : M2 5 10 = 0 := by rw [hM2, sU_n (by omega), sU_s]
  have v11 : M2 5 11 = 0 := by rw [hM2, sU_s]
  have D1 : drK U 0 0 0 0 0 0 0 S1 SM1 := by
    refine ⟨⟨?_, ?_, by omega, fun q z => absurd z (by omega)⟩, ⟨?_, ?_, by omega, fun q z => absurd z (by omega), fun g g' z => absurd z (by omega), ?_, by omega, fun q _ => ⟨fun z => ?_, fun ⟨g, z, _⟩ => absurd z (by omega)⟩⟩, ⟨?_, ?_, by omega, fun q z => absurd z (by omega)⟩, ⟨?_, by omega, ?_⟩, ⟨⟨0, ⟨?_, ?_, by omega, fun i z => absurd z (by omega), fun i z => absurd z (by omega), rfl⟩, Or.inl rfl⟩, ?_⟩, ⟨⟨0, ⟨?_, ?_, by omega, fun i z => absurd z (by omega), fun i z => absurd z (by omega), rfl⟩, Or.inl rfl⟩, ?_⟩⟩
    · rw [xS _ _ (by omega)]; exact y0
    · rw [xM]; exact v6
    · rw [xS _ _ (by omega)]; exact y5
    · rw [xM]; exact v7
    · rw [a5 99 30 rfl, l2 99 30 (by omega)]; exact w30
    · rw [Nat.zero_testBit] at z; cases z
    · rw [xS _ _ (by omega)]; exact y10
    · rw [xM]; exact v9
    · rw [xS _ _ (by omega)]; exact y12
    · rw [xM, if_pos rfl]; exact v8
    · rw [xS _ _ (by omega)]; exact yr1
    · rw [xM]; exact v10
    · rw [xS _ _ (by omega), k0 _ _ (by omega) (by omega)]; exact hr.1
    · rw [xS _ _ (by omega)]; exact yr2
    · rw [xM]; exact v11
    · rw [xS _ _ (by omega), k0 _ _ (by omega) (by omega)]; exact hr.2
  have hU1 : xdr S1 = U := (xdr_on (by rw [a4 1 1 rfl, k2 1 1 (by omega) (by omega), k0 1 1 (by omega) (by omega)])).trans hU
  obtain ⟨S', SM', r1, r2, r3, r4, r5⟩ := L_lines hT n 5000 5000 0 S1 SM1 s1 p1 k1 0 0 0 0 0 0 0 (by omega) (by omega) (by omega) T1 F1 D1 hU1 (by omega)
  have g4 : ∀ j, mNu 99 j = false → ¬ (j = 3 ∨ j = 30 ∨ j = 31) → SM' 99 j = M0 99 j := fun j z1 z2 => by
    rw [r4 99 j z1 (by unfold mBig; omega), a5 99 j (mNu_f z1).1]
    exact l2 99 j (by omega)
  refine ⟨S', SM', ?_, ?_, fun i j z1 z2 z3 => ?_, fun i j z1 z2 z3 => ?_, (g4 4 rfl (by omega)).trans w4, (g4 20 rfl (by omega)).trans w20, (g4 29 rfl (by omega)).trans w29, r5⟩
  · have ec : fX9_clear 5000 U S = some (0, S0) := by
      rw [hS0]
      exact x_clear0
    have eo : fX8_open 5000 (nI n) (sU (sU S0 1 2 0) 1 3 (-1)) = some (0, S1) := x_open0 (y := nI N0) (by rw [sU_n (by omega), sU_n (by omega), k0 2 1 (by omega) (by omega)]; exact h21) (nI_nlt (by omega) (by omega)) (by rw [← hS2]; exact a1)
    refine (x_read0 hU ec eo).trans ?_
    exact r1
  · refine (m_port0 (nI_pos (by omega)) (by rw [m20]; exact nI_le hn (by omega))).trans ?_
    rw [← hM0]
    refine (p55_all (f := 4993)).trans ?_
    rw [← hM2]
    refine (m_port1 a2).trans ?_
    exact r2
  · rw [r3 i j z1 z2, a4 i j (xNu_f z1).1]
    have z4 := (xNu_f z1).2
    have z5 : ¬ (i = 2 ∧ j = 3) := by
      rintro ⟨rfl, rfl⟩
      cases z1
    rw [k2 i j z4 (by omega)]
    exact k0 i j (by omega) (by omega)
  · rw [r4 i j z1 z2, a5 i j (mNu_f z1).1]
    have z4 := (mNu_f z1).2
    have z5 : ¬ (i = 99 ∧ j = 21) := by
      rintro ⟨rfl, rfl⟩
      cases z1
    unfold mBig at z2
    rw [l2 i j (by omega)]
    exact l0 i j (by omega)
end
end
