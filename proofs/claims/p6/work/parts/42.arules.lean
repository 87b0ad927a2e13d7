/-! a rule's worth on both sides -/
noncomputable def env (Z : Nat → Nat → Int32) (k : Nat) (si pu we ho gr : Int32) : Nat → Int32 := fun i => if i = 0 then si else if i = 1 then pu else if i = 2 then Z 1 k else if i = 3 then Z 3 k else if i = 4 then we else if i = 5 then ho else gr
noncomputable def rV (c : Nat → Int32) (n : Nat) (a : Nat → Int32) : Int32 := rRow c a (fun _ => 0) n 0
theorem x_valueOf {N T k i : Nat} {S : gS} (hk : k < 8) (h4 : S 51 4 = nI k) (hi : i ≤ 6) : fX10_valueOf N T (nI (10000 + i)) S = some (env (fun a => S (T + a)) k (S 51 1) (S 51 2) (S 51 6) (S 51 5) (S 51 0) i, S) := by
  unfold fX10_valueOf fX10_valueOf_b0
  rw [h4, if_neg (nI_pos (by omega))]
  unfold fX10_valueOf_b7
  rw [h4, if_neg (show ¬ (8 : Int32) ≤ nI k from nI_ge (b := 8) hk (by decide))]
  unfold fX10_valueOf_b16 fX10_valueOf_b21
  rcases (show i = 0 ∨ i = 1 ∨ i = 2 ∨ i = 3 ∨ i = 4 ∨ i = 5 ∨ i = 6 by omega) with rfl | rfl | rfl | rfl | rfl | rfl | rfl
  · rfl
  · rfl
  · show fX10_valueOf_b74 N T S = _
    unfold fX10_valueOf_b74
    rw [h4, chk_t (inb_t hk (by decide)), nI_clamp (by omega)]
    rfl
  · show fX10_valueOf_b92 N T S = _
    unfold fX10_valueOf_b92
    rw [h4, chk_t (inb_t hk (by decide)), nI_clamp (by omega)]
    rfl
  · rfl
  · rfl
  · rfl
theorem i32_nat {x : Int32} {m : Nat} (hm : m < 2 ^ 31) (h0 : 0 ≤ x) (h1 : x ≤ nI m) : ∃ v : Nat, v ≤ m ∧ x = nI v := nI_of2 (nI_toInt hm) (Int32.not_lt.mpr h0) h1
theorem i32_nat2 {x : Int32} {l m : Nat} (hl : l < 2 ^ 31) (hm : m < 2 ^ 31) (h0 : nI l ≤ x) (h1 : x ≤ nI m) : ∃ v : Nat, l ≤ v ∧ v ≤ m ∧ x = nI v := by
  obtain ⟨v, hv, rfl⟩ := i32_nat hm (Int32.le_trans (nI_pos' hl) h0) h1
  exact ⟨v, (nI_leI hl (by omega)).mp h0, hv, rfl⟩
section
variable {c a r : Nat → Int32} {i v : Nat}
theorem rD1 (h : c i = nI v) (hv : v < 10010) : rDep c (i + 1) = rDep c i + 1 := by
  show (if c i < 10010 then rDep c i + 1 else _) = _
  rw [h, if_pos (show nI v < 10010 from nI_lt (b := 10010) hv (by decide))]
theorem rD2 (h : c i = 10010) : rDep c (i + 1) = rDep c i := by
  show (if c i < 10010 then rDep c i + 1 else if c i = 10010 then rDep c i else rDep c i - 1) = _
  rw [h, if_neg (by decide), if_pos rfl]
theorem rD3 (h : c i = nI v) (h1 : 10011 ≤ v) (h2 : v ≤ 10018) : rDep c (i + 1) = rDep c i - 1 := by
  show (if c i < 10010 then rDep c i + 1 else if c i = 10010 then rDep c i else rDep c i - 1) = _
  rw [h, if_neg (show ¬ nI v < 10010 from nI_nlt (b := 10010) (by omega) (by omega)), if_neg (fun q => by have := (nI_eq (b := 10010) (by omega) (by omega)).mp q; omega)]
theorem rR1 (h : c i = nI v) (hv : v ≤ 9999) : rRow c a r (i + 1) = upd (rRow c a r i) (rDep c i) (nI v) := by
  show rStep c a (rDep c i) (rRow c a r i) i = _
  unfold rStep
  rw [h, if_pos (show nI v < 10010 from nI_lt (b := 10010) (by omega) (by decide)), if_pos (show nI v ≤ 9999 from nI_le (b := 9999) hv (by decide))]
theorem rR1b (h : c i = nI (10000 + v)) (hv : v ≤ 6) : rRow c a r (i + 1) = upd (rRow c a r i) (rDep c i) (a v) := by
  show rStep c a (rDep c i) (rRow c a r i) i = _
  unfold rStep
  rw [h, if_pos (show nI (10000 + v) < 10010 from nI_lt (b := 10010) (by omega) (by decide)), if_neg (show ¬ nI (10000 + v) ≤ 9999 from nI_ge (a := 9999) (by omega) (by omega)), nI_clamp (by omega), show 10000 + v - 10000 = v by omega]
theorem rR2 (h : c i = 10010) : rRow c a r (i + 1) = upd (rRow c a r i) (rDep c i - 1) (if rRow c a r i (rDep c i - 1) = 0 then 1 else 0) := by
  show rStep c a (rDep c i) (rRow c a r i) i = _
  unfold rStep
  rw [h, if_neg (by decide), if_pos rfl]
theorem rR3 (h : c i = nI v) (h1 : 10011 ≤ v) (h2 : v ≤ 10018) : rRow c a r (i + 1) = upd (rRow c a r i) (rDep c i - 2) (opS v (rRow c a r i (rDep c i - 2)) (rRow c a r i (rDep c i - 1))) := by
  show rStep c a (rDep c i) (rRow c a r i) i = _
  unfold rStep
  rw [h, if_neg (show ¬ nI v < 10010 from nI_nlt (b := 10010) (by omega) (by omega)), if_neg (fun q => by have := (nI_eq (b := 10010) (by omega) (by omega)).mp q; omega), nI_clamp (by omega)]
end
/-- what a code is, by numbers -/
theorem rCase {c : Nat → Int32} {n i : Nat} (ok : rOK c n) (hi : i < n) : (∃ v : Nat, v ≤ 9999 ∧ c i = nI v ∧ rDep c i < 31) ∨ (∃ v : Nat, v ≤ 6 ∧ c i = nI (10000 + v) ∧ rDep c i < 31) ∨ (c i = 10010 ∧ 1 ≤ rDep c i ∧ rDep c i ≤ 31) ∨ ∃ v : Nat, 10011 ≤ v ∧ v ≤ 10018 ∧ c i = nI v ∧ 2 ≤ rDep c i ∧ rDep c i ≤ 31 := by
  have hd := rDep_lt ok.1 i (by omega)
  rcases ok.1 i hi with ⟨⟨h1, h2⟩, h3⟩ | ⟨h1, h2⟩ | ⟨⟨h1, h2⟩, h3⟩
  · obtain ⟨v, hv, e⟩ := i32_nat (m := 10006) (by decide) h1 h2
    by_cases h9 : v ≤ 9999
    · exact Or.inl ⟨v, h9, e, h3⟩
    · exact Or.inr (Or.inl ⟨v - 10000, by omega, by rw [show 10000 + (v - 10000) = v by omega]; exact e, h3⟩)
  · exact Or.inr (Or.inr (Or.inl ⟨h1, h2, hd⟩))
  · obtain ⟨v, hv, hv2, e⟩ := i32_nat2 (l := 10011) (m := 10018) (by decide) (by decide) h1 h2
    exact Or.inr (Or.inr (Or.inr ⟨v, hv, hv2, e, h3, hd⟩))
theorem nI_m1 {d : Nat} (h : 1 ≤ d) : nI d - 1 = nI (d - 1) := by
  rw [show d = (d - 1) + 1 by omega, nI_pred]
  rfl
theorem nI_p1 {d : Nat} (h : 1 ≤ d) : nI d + (-1) = nI (d - 1) := by
  rw [show d = (d - 1) + 1 by omega, pk_m1]
  rfl
theorem x_worth_h {N T k0 n k : Nat} {S : gS} {a r : Nat → Int32} (hk : k < 8) (h4 : S 51 4 = nI k) (n1 : 51 ≠ k0 + 2) (n2 : T + 1 ≠ k0 + 2) (n3 : T + 3 ≠ k0 + 2) (hx : xN (k0 + 2) = 31) (hn : S k0 3 = nI n) (h7 : n ≤ 700) (ok : rOK (S (k0 + 1)) n) (ha : a = env (fun a => S (T + a)) k (S 51 1) (S 51 2) (S 51 6) (S 51 5) (S 51 0)) : ∀ (m i fuel : Nat), i + m = n → m < fuel →
    fX4_worth_h5 N fuel k0 T (nI (rDep (S (k0 + 1)) i)) (nI i) (sN S (k0 + 2) (rRow (S (k0 + 1)) a r i)) = some (if rDep (S (k0 + 1)) n = 0 then 0 else rRow (S (k0 + 1)) a r n 0, sN S (k0 + 2) (rRow (S (k0 + 1)) a r n)) := by
  intro m
  induction m with
  | zero =>
    intro i fuel h1 h2
    obtain ⟨f, rfl⟩ : ∃ f, fuel = f + 1 := ⟨fuel - 1, by omega⟩
    have : i = n := by omega
    subst this
    show fX4_worth_b5 N _ k0 T _ (nI i) _ = _
    unfold fX4_worth_b5
    rw [sN_n (show k0 ≠ k0 + 2 by omega), hn, if_pos (nI_le (Nat.le_refl _) (by omega))]
    unfold fX4_worth_b161
    have hd := rDep_lt ok.1 i (Nat.le_refl _)
    by_cases h0 : rDep (S (k0 + 1)) i = 0
    · rw [h0, if_pos rfl]
      rfl
    · rw [if_neg (nI_ne0 (by omega) (by omega)), if_neg h0]
      unfold fX4_worth_b169
      rw [sN_s]
      rfl
  | succ m ih =>
    intro i fuel h1 h2
    obtain ⟨f, rfl⟩ : ∃ f, fuel = f + 1 := ⟨fuel - 1, by omega⟩
    have IH := ih (i + 1) f (by omega) (by omega)
    show fX4_worth_b5 N (fX4_worth_h5 N f) k0 T _ (nI i) _ = _
    unfold fX4_worth_b5
    rw [sN_n (show k0 ≠ k0 + 2 by omega), hn, if_neg (nI_ge (by omega) (by omega))]
    unfold fX4_worth_b14
    rw [sN_n (show k0 + 1 ≠ k0 + 2 by omega), chk_t (inb_t (by omega) (by decide)), nI_clamp (by omega)]
    rcases rCase ok (show i < n by omega) with ⟨v, v1, e, d1⟩ | ⟨v, v1, e, d1⟩ | ⟨e, d1, d2⟩ | ⟨v, v1, v2, e, d1, d2⟩
    · rw [rD1 e (by omega), rR1 e v1] at IH
      rw [e, if_neg (show ¬ (10010 : Int32) ≤ nI v from nI_ge (b := 10010) (by omega) (by decide))]
      unfold fX4_worth_b31
      rw [if_neg (show ¬ (31 : Int32) ≤ nI (rDep (S (k0 + 1)) i) from nI_ge (b := 31) d1 (by decide))]
      unfold fX4_worth_b40
      rw [if_neg (show ¬ (9999 : Int32) < nI v from nI_nlt (a := 9999) v1 (by decide))]
      unfold fX4_worth_b53 fX4_worth_b65
      rw [hx, chk_t (inb_t (by omega) (by decide)), nI_clamp (by omega)]
      dsimp only [lt]
      unfold fX4_worth_b155
      rw [sN_up, nI_1, nI_1]
      exact IH
    · rw [rD1 e (by omega), rR1b e v1] at IH
      rw [e, if_neg (show ¬ (10010 : Int32) ≤ nI (10000 + v) from nI_ge (b := 10010) (by omega) (by decide))]
      unfold fX4_worth_b31
      rw [if_neg (show ¬ (31 : Int32) ≤ nI (rDep (S (k0 + 1)) i) from nI_ge (b := 31) d1 (by decide))]
      unfold fX4_worth_b40
      rw [if_pos (show (9999 : Int32) < nI (10000 + v) from nI_lt (a := 9999) (by omega) (by omega))]
      unfold fX4_worth_b58
      rw [bnd_t (x_valueOf (T := T) hk (by rw [sN_n n1]; exact h4) v1)]
      unfold fX4_worth_b65
      rw [hx, chk_t (inb_t (by omega) (by decide)), nI_clamp (by omega)]
      dsimp only [lt]
      unfold fX4_worth_b155
      rw [sN_up, nI_1, nI_1, sN_n n1]
      have e9 : env (fun a_1 => sN S (k0 + 2) (rRow (S (k0 + 1)) a r i) (T + a_1)) k (S 51 1) (S 51 2) (S 51 6) (S 51 5) (S 51 0) v = a v := by
        rw [ha]
        unfold env
        dsimp only
        rw [sN_n n2, sN_n n3]
      rw [e9]
      exact IH
    · rw [rD2 e, rR2 e] at IH
      rw [e, if_pos (by decide)]
      unfold fX4_worth_b72
      rw [if_pos rfl]
      unfold fX4_worth_b80
      rw [if_neg (show ¬ nI (rDep (S (k0 + 1)) i) < 1 from nI_nlt (b := 1) d1 (by omega))]
      unfold fX4_worth_b85
      rw [nI_m1 d1, chk_t (inb_t (by omega) (by decide)), nI_clamp (by omega), sN_s]
      by_cases h0 : rRow (S (k0 + 1)) a r i (rDep (S (k0 + 1)) i - 1) = 0
      · rw [if_pos h0] at IH ⊢
        unfold fX4_worth_b103 fX4_worth_b108
        rw [hx, chk_t (inb_t (by omega) (by decide)), nI_clamp (by omega)]
        dsimp only [lt]
        unfold fX4_worth_b155
        rw [sN_up, nI_1]
        exact IH
      · rw [if_neg h0] at IH ⊢
        unfold fX4_worth_b107 fX4_worth_b108
        rw [hx, chk_t (inb_t (by omega) (by decide)), nI_clamp (by omega)]
        dsimp only [lt]
        unfold fX4_worth_b155
        rw [sN_up, nI_1]
        exact IH
    · rw [rD3 e v1 v2, rR3 e v1 v2] at IH
      rw [e, if_pos (show (10010 : Int32) ≤ nI v from nI_le (a := 10010) (by omega) (by omega))]
      unfold fX4_worth_b72
      rw [if_neg (fun q => by have := (nI_eq (b := 10010) (by omega) (by omega)).mp q; omega)]
      unfold fX4_worth_b112
      rw [if_neg (show ¬ nI v ≤ 10010 from nI_ge (a := 10010) (by omega) (by omega))]
      unfold fX4_worth_b120
      rw [if_neg (show ¬ nI (rDep (S (k0 + 1)) i) < 2 from nI_nlt (b := 2) d1 (by omega))]
      unfold fX4_worth_b125
      rw [nI_p1 (by omega), nI_m1 (by omega), chk_t (inb_t (by omega) (by decide)), chk_t (inb_t (by omega) (by decide)), nI_clamp (by omega), nI_clamp (by omega), sN_s, bnd_t (x_join v1 v2), chk_t (inb_t (by omega) (by decide))]
      dsimp only [lt]
      unfold fX4_worth_b155
      rw [sN_up, nI_1, show rDep (S (k0 + 1)) i - 1 - 1 = rDep (S (k0 + 1)) i - 2 by omega]
      exact IH
theorem rV_any {c a r : Nat → Int32} {n : Nat} (ok : rOK c n) (h0 : n ≠ 0) : rDep c n ≠ 0 ∧ rRow c a r n 0 = rV c n a := by
  have h1 : 1 ≤ rDep c n := by
    rcases ok.2 with h | h
    · exact absurd h h0
    · exact h
  exact ⟨by omega, rRow_eq ok.1 n (Nat.le_refl _) 0 (by omega)⟩
theorem x_worth {N T k0 n k : Nat} {S : gS} (hk : k < 8) (h4 : S 51 4 = nI k) (n1 : 51 ≠ k0 + 2) (n2 : T + 1 ≠ k0 + 2) (n3 : T + 3 ≠ k0 + 2) (hx : xN (k0 + 2) = 31) (hn : S k0 3 = nI n) (h7 : n ≤ 700) (h0 : n ≠ 0) (ok : rOK (S (k0 + 1)) n) (hN : 700 < N) : ∃ r, fX4_worth N k0 T S = some (rV (S (k0 + 1)) n (env (fun a => S (T + a)) k (S 51 1) (S 51 2) (S 51 6) (S 51 5) (S 51 0)), sN S (k0 + 2) r) := by
  have h := x_worth_h (N := N) (r := S (k0 + 2)) hk h4 n1 n2 n3 hx hn h7 ok rfl n 0 N (by omega) (by omega)
  have e0 : sN S (k0 + 2) (rRow (S (k0 + 1)) (env (fun a => S (T + a)) k (S 51 1) (S 51 2) (S 51 6) (S 51 5) (S 51 0)) (S (k0 + 2)) 0) = S := sN_self S (k0 + 2)
  rw [e0] at h
  obtain ⟨q1, q2⟩ := rV_any (a := env (fun a => S (T + a)) k (S 51 1) (S 51 2) (S 51 6) (S 51 5) (S 51 0)) (r := S (k0 + 2)) ok h0
  rw [if_neg q1, q2] at h
  exact ⟨_, h⟩
theorem sgn_n {v : Nat} (hv : v ≤ 9999) : sgn (nI v) = nI v := by
  unfold sgn
  rw [if_pos (show nI v ≤ 9999 from nI_le (b := 9999) hv (by decide))]
theorem m_value_h {N nd n : Nat} {S : gS} {c r : Nat → Int32} (n1 : nd ≠ 43) (hx : mN nd = 1400) (h7 : n ≤ 700) (ok : rOK c n) (hc : ∀ i, i < n → S nd i = sgn (c i)) : ∀ (m i fuel : Nat), i + m = n → m < fuel →
    fX12_valueNow_h5 N fuel nd (nI n) (nI (rDep c i)) (nI i) (sN S 43 (rRow c (S 42) r i)) = some (rRow c (S 42) r n 0, sN S 43 (rRow c (S 42) r n)) := by
  intro m
  induction m with
  | zero =>
    intro i fuel h1 h2
    obtain ⟨f, rfl⟩ : ∃ f, fuel = f + 1 := ⟨fuel - 1, by omega⟩
    have : i = n := by omega
    subst this
    show fX12_valueNow_b5 N _ nd _ _ (nI i) _ = _
    unfold fX12_valueNow_b5
    rw [if_pos (nI_le (Nat.le_refl _) (by omega))]
    unfold fX12_valueNow_b125
    rw [sN_s]
  | succ m ih =>
    intro i fuel h1 h2
    obtain ⟨f, rfl⟩ : ∃ f, fuel = f + 1 := ⟨fuel - 1, by omega⟩
    have IH := ih (i + 1) f (by omega) (by omega)
    show fX12_valueNow_b5 N (fX12_valueNow_h5 N f) nd _ _ (nI i) _ = _
    unfold fX12_valueNow_b5
    rw [if_neg (nI_ge (by omega) (by omega))]
    unfold fX12_valueNow_b11
    rw [sN_n n1, hx, chk_t (inb_t (by omega) (by decide)), nI_clamp (by omega), hc i (by omega)]
    rcases rCase ok (show i < n by omega) with ⟨v, v1, e, d1⟩ | ⟨v, v1, e, d1⟩ | ⟨e, d1, d2⟩ | ⟨v, v1, v2, e, d1, d2⟩
    · rw [rD1 e (by omega), rR1 e v1] at IH
      rw [e, sgn_n v1, if_neg (show ¬ nI v ≤ -20 from fun q => by
        rw [Int32.le_iff_toInt_le, nI_toInt (by omega)] at q
        have e0 : (-20 : Int32).toInt = -20 := rfl
        omega)]
      unfold fX12_valueNow_b24
      rw [if_neg (nI_pos (by omega))]
      unfold fX12_valueNow_b34 fX12_valueNow_b48
      rw [chk_t (inb_t (by omega) (by decide)), nI_clamp (by omega)]
      dsimp only [lt]
      unfold fX12_valueNow_b119
      rw [sN_up, nI_1, nI_1]
      exact IH
    · rw [rD1 e (by omega), rR1b e v1] at IH
      rw [e]
      have hs : ¬ sgn (nI (10000 + v)) ≤ -20 ∧ sgn (nI (10000 + v)) < 0 ∧ (-1 : Int32) - sgn (nI (10000 + v)) = nI v := by
        rcases (show v = 0 ∨ v = 1 ∨ v = 2 ∨ v = 3 ∨ v = 4 ∨ v = 5 ∨ v = 6 by omega) with rfl | rfl | rfl | rfl | rfl | rfl | rfl <;> decide +kernel
      rw [if_neg hs.1]
      unfold fX12_valueNow_b24
      rw [if_pos hs.2.1]
      unfold fX12_valueNow_b39
      rw [hs.2.2, chk_t (inb_t (by omega) (by decide)), nI_clamp (n := v) (by omega), sN_n (show 42 ≠ 43 by decide)]
      unfold fX12_valueNow_b48
      rw [chk_t (inb_t (by omega) (by decide)), nI_clamp (by omega)]
      dsimp only [lt]
      unfold fX12_valueNow_b119
      rw [sN_up, nI_1, nI_1]
      exact IH
    · rw [rD2 e, rR2 e] at IH
      rw [e, show sgn 10010 = -28 from rfl, if_pos (by decide)]
      unfold fX12_valueNow_b55
      rw [if_pos rfl]
      unfold fX12_valueNow_b62
      rw [nI_m1 d1, chk_t (inb_t (by omega) (by decide)), nI_clamp (by omega), sN_s]
      by_cases h0 : rRow c (S 42) r i (rDep c i - 1) = 0
      · rw [if_pos h0] at IH ⊢
        unfold fX12_valueNow_b84 fX12_valueNow_b85
        rw [chk_t (inb_t (by omega) (by decide)), nI_clamp (by omega)]
        dsimp only [lt]
        unfold fX12_valueNow_b119
        rw [sN_up, nI_1]
        exact IH
      · rw [if_neg h0] at IH ⊢
        unfold fX12_valueNow_b80 fX12_valueNow_b85
        rw [chk_t (inb_t (by omega) (by decide)), nI_clamp (by omega)]
        dsimp only [lt]
        unfold fX12_valueNow_b119
        rw [sN_up, nI_1]
        exact IH
    · rw [rD3 e v1 v2, rR3 e v1 v2] at IH
      rw [e]
      have hs : sgn (nI v) ≤ -20 ∧ ¬ sgn (nI v) = -28 := by
        rcases (show v = 10011 ∨ v = 10012 ∨ v = 10013 ∨ v = 10014 ∨ v = 10015 ∨ v = 10016 ∨ v = 10017 ∨ v = 10018 by omega) with rfl | rfl | rfl | rfl | rfl | rfl | rfl | rfl <;> decide +kernel
      rw [if_pos hs.1]
      unfold fX12_valueNow_b55
      rw [if_neg hs.2]
      unfold fX12_valueNow_b89
      rw [nI_p1 (by omega), nI_m1 (by omega), chk_t (inb_t (by omega) (by decide)), chk_t (inb_t (by omega) (by decide)), nI_clamp (by omega), nI_clamp (by omega), sN_s, bnd_t (m_reckon v1 v2), chk_t (inb_t (by omega) (by decide))]
      dsimp only [lt]
      unfold fX12_valueNow_b119
      rw [sN_up, nI_1, show rDep c i - 1 - 1 = rDep c i - 2 by omega]
      exact IH
theorem m_valueNow {N nd n : Nat} {S : gS} {c : Nat → Int32} (n1 : nd ≠ 43) (hx : mN nd = 1400) (h7 : n ≤ 700) (h0 : n ≠ 0) (ok : rOK c n) (hc : ∀ i, i < n → S nd i = sgn (c i)) (hN : 700 < N) : ∃ r, fX12_valueNow N nd (nI n) S = some (rV c n (S 42), sN S 43 r) := by
  have h := m_value_h (N := N) (r := S 43) n1 hx h7 ok hc n 0 N (by omega) (by omega)
  have e0 : sN S 43 (rRow c (S 42) (S 43) 0) = S := sN_self S 43
  rw [e0] at h
  rw [(rV_any (a := S 42) (r := S 43) ok h0).2] at h
  exact ⟨_, h⟩
theorem rV_env {c : Nat → Int32} {n : Nat} {a a' : Nat → Int32} (ok : rOK c n) (h : ∀ i, i ≤ 6 → (∃ j, j < n ∧ c j = nI (10000 + i)) → a i = a' i) : rV c n a = rV c n a' := by
  have H : ∀ i, i ≤ n → rRow c a (fun _ => 0) i = rRow c a' (fun _ => 0) i := by
    intro i
    induction i with
    | zero => intro _; rfl
    | succ i ih =>
      intro hi
      have IH := ih (by omega)
      rcases rCase ok (show i < n by omega) with ⟨v, v1, e, d1⟩ | ⟨v, v1, e, d1⟩ | ⟨e, d1, d2⟩ | ⟨v, v1, v2, e, d1, d2⟩
      · rw [rR1 e v1, rR1 e v1, IH]
      · rw [rR1b e v1, rR1b e v1, IH, h v v1 ⟨i, by omega, e⟩]
      · rw [rR2 e, rR2 e, IH]
      · rw [rR3 e v1 v2, rR3 e v1 v2, IH]
  unfold rV
  rw [H n (Nat.le_refl _)]
theorem rV_env2 {c : Nat → Int32} {n : Nat} {a a' : Nat → Int32} (ok : rOK c n) (h : ∀ i, i ≤ 6 → a i = a' i) : rV c n a = rV c n a' := rV_env ok (fun i hi _ => h i hi)
