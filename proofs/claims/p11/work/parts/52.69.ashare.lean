/-! who can have which: a pure picture -/
noncomputable def mnF (st : Nat) (ok : Nat → Bool) (v : Nat → Nat) : Nat → Nat
  | 0 => st
  | k + 1 => if ok k = true then (if v k < mnF st ok v k then v k else mnF st ok v k) else mnF st ok v k
theorem mnF_le {st : Nat} {ok : Nat → Bool} {v : Nat → Nat} : ∀ n, mnF st ok v n ≤ st := by
  intro n
  induction n with
  | zero => exact Nat.le_refl _
  | succ n ih =>
    show (if ok n = true then (if v n < mnF st ok v n then v n else mnF st ok v n) else mnF st ok v n) ≤ st
    by_cases h : ok n = true
    · rw [if_pos h]
      by_cases h2 : v n < mnF st ok v n
      · rw [if_pos h2]; omega
      · rw [if_neg h2]; exact ih
    · rw [if_neg h]; exact ih
/-- the least is the start, or one of them -/
theorem mnF_att {st : Nat} {ok : Nat → Bool} {v : Nat → Nat} : ∀ n, mnF st ok v n = st ∨ ∃ k, k < n ∧ ok k = true ∧ v k = mnF st ok v n := by
  intro n
  induction n with
  | zero => exact Or.inl rfl
  | succ n ih =>
    have e : mnF st ok v (n + 1) = if ok n = true then (if v n < mnF st ok v n then v n else mnF st ok v n) else mnF st ok v n := rfl
    have old : mnF st ok v (n + 1) = mnF st ok v n → mnF st ok v (n + 1) = st ∨ ∃ k, k < n + 1 ∧ ok k = true ∧ v k = mnF st ok v (n + 1) := by
      intro q
      rw [q]
      rcases ih with h | ⟨k, h1, h2, h3⟩
      · exact Or.inl h
      · exact Or.inr ⟨k, by omega, h2, h3⟩
    by_cases h : ok n = true
    · rw [if_pos h] at e
      by_cases h2 : v n < mnF st ok v n
      · rw [if_pos h2] at e
        exact Or.inr ⟨n, by omega, h, e.symm⟩
      · rw [if_neg h2] at e
        exact old e
    · rw [if_neg h] at e
      exact old e
noncomputable def prN (Z : gS) (k : Nat) : Nat := (Z 3 k).toNatClampNeg
noncomputable def puN (qs : Nat → qT) (g : Nat) : Nat := (qs g).2.1.toNatClampNeg
noncomputable def mayN (Z : gS) (qs : Nat → qT) (g had k : Nat) : Bool := !had.testBit k && decide (10 * prN Z k ≤ puN qs g)
noncomputable def LN (Z : gS) (qs : Nat → qT) : Nat → Nat → Nat
  | 0, _ => 0
  | r + 1, had => mnF (1000 + LN Z qs r had) (mayN Z qs (tn1 Z - (r + 1)) had) (fun k => prN Z k + LN Z qs r (had ||| 2 ^ k)) (tn0 Z)
theorem LN_le {Z : gS} {qs : Nat → qT} : ∀ r had, LN Z qs r had ≤ 1000 * r := by
  intro r
  induction r with
  | zero => intro had; exact Nat.le_refl _
  | succ r ih =>
    intro had
    have h1 : LN Z qs (r + 1) had ≤ 1000 + LN Z qs r had := mnF_le _
    have := ih had
    omega
theorem pr_ok {Z : gS} {k : Nat} (Zk : tOK Z) (hk : k < tn0 Z) : Z 3 k = nI (prN Z k) ∧ prN Z k ≤ 20 := by
  obtain ⟨-, -, ⟨u, u1, u2⟩, -⟩ := Zk.2.2.2.2.1 k hk
  unfold prN
  rw [u2, nI_clamp (by omega)]
  exact ⟨rfl, u1⟩
theorem pu_ok {Z : gS} {e : Nat → Int32} {qs : Nat → qT} {g : Nat} (K : qsOK Z e qs) (hg : g < tn1 Z) : (qs g).2.1 = nI (puN qs g) ∧ puN qs g ≤ 999 := by
  obtain ⟨y, hy, ey⟩ := i32_999 (K.1 g hg).2.1
  unfold puN
  rw [ey, nI_clamp (by omega)]
  exact ⟨rfl, hy⟩
noncomputable def pcN (had : Nat) : Nat := (bcV (nI had)).toNatClampNeg
theorem pc_all : ∀ had, had < 256 → bcV (nI had) = nI (pcN had) ∧ pcN had ≤ 8 := by decide +kernel
theorem or_all : ∀ had, had < 256 → ∀ k, k < 8 → nI had ||| ((1 : Int32) <<< (nI k &&& 31)) = nI (had ||| 2 ^ k) ∧ bt (nI had) (nI k) = had.testBit k ∧ pcN (had ||| 2 ^ k) ≤ pcN had + 1 := by decide +kernel
theorem shl8 : ∀ g, g < 8 → nI g <<< ((8 : Int32) &&& 31) = nI (256 * g) := by decide +kernel
theorem or_lt {n had k : Nat} (h : had < 2 ^ n) (hk : k < n) : had ||| 2 ^ k < 2 ^ n := Nat.or_lt_two_pow h (Nat.pow_lt_pow_right (by decide) hk)
section
variable {N g k had : Nat} {Z SX S : gS} {d : Int32} {h : Nat} {qs : Nat → qT}
theorem x_canHave (Zk : tOK Z) (C : cSit 21 Z S h d qs) (K : qsOK Z (Z 5) qs) (hg : g < tn1 Z) (hk : k < tn0 Z) (hh : had < 256) : fX6_canHave N (xtw S) 21 (nI g) (nI k) (nI had) S = some (iv (mayN Z qs g had k), S) := by
  have z6 := Zk.2.1.2
  have z8 := Zk.1.2
  obtain ⟨p1, p2⟩ := pr_ok Zk hk
  obtain ⟨u1, u2⟩ := pu_ok K hg
  unfold fX6_canHave fX6_canHave_b0 mayN
  rw [bnd_t x_isOneOf, (or_all had hh k (by omega)).2.1]
  cases had.testBit k with
  | true => rfl
  | false =>
    show fX6_canHave_b9 N (xtw S) 21 (nI g) (nI k) S = _
    unfold fX6_canHave_b9
    rw [chk_t (inb_t (by omega) (by decide)), chk_t (inb_t (by omega) (by decide)), nI_clamp (by omega), nI_clamp (by omega), show S (21 + 2) g = nI (puN qs g) from (C.2.2.2 g hg).2.1.trans u1, C.1 3 k (by omega) (by omega), p1, show (10 : Int32) = nI 10 from rfl, pk_mul]
    by_cases hl : 10 * prN Z k ≤ puN qs g
    · rw [if_neg (nI_nlt hl (by omega)), decide_eq_true hl]; rfl
    · rw [if_pos (nI_lt (by omega) (by omega)), decide_eq_false hl]; rfl
theorem m_mayHave {e : Nat → Int32} (Zk : tOK Z) (M : mSit Z S h d e qs) (K : qsOK Z e qs) (hg : g < tn1 Z) (hk : k < tn0 Z) (hh : had < 256) : fX12_mayHave N (nI g) (nI had) (nI k) S = some (iv (mayN Z qs g had k), S) := by
  have z6 := Zk.2.1.2
  have z8 := Zk.1.2
  obtain ⟨p1, p2⟩ := pr_ok Zk hk
  obtain ⟨u1, u2⟩ := pu_ok K hg
  unfold fX12_mayHave fX12_mayHave_b0 mayN
  rw [bnd_t m_isOf, (or_all had hh k (by omega)).2.1]
  cases had.testBit k with
  | true => rfl
  | false =>
    show fX12_mayHave_b8 N (nI g) (nI k) S = _
    unfold fX12_mayHave_b8
    rw [chk_t (inb_t (by omega) (by decide)), chk_t (inb_t (by omega) (by decide)), nI_clamp (by omega), nI_clamp (by omega), (M.2.2.2.2 g hg).2.1, u1, (M.1.2.2.2.2.2.2.2.1 k hk).2.2.1, p1, show (10 : Int32) = nI 10 from rfl, pk_mul]
    by_cases hl : 10 * prN Z k ≤ puN qs g
    · rw [if_neg (nI_nlt hl (by omega)), decide_eq_true hl]; rfl
    · rw [if_pos (nI_lt (by omega) (by omega)), decide_eq_false hl]; rfl
/-- what the class's table holds from GUILD g0 on -/
def TB (Z : gS) (qs : Nat → qT) (g0 : Nat) (S : gS) : Prop := ∀ g, g0 ≤ g → g < tn1 Z → ∀ had, had < 2 ^ tn0 Z → pcN had ≤ g → S (53 + 1 + g) had = nI (1000 * (tn1 Z - g) - LN Z qs (tn1 Z - g) had)
theorem x_behind (Zk : tOK Z) (hx5 : S (xtw S) 5 = nI (tn1 Z)) (hg : g < tn1 Z) (hh : had < 2 ^ tn0 Z) (hp : pcN had ≤ g + 1) (T : TB Z qs (g + 1) S) : fX6_behind N (xtw S) (nI g) (nI had) S = some (nI (1000 * (tn1 Z - (g + 1)) - LN Z qs (tn1 Z - (g + 1)) had), S) := by
  have z6 := Zk.2.1.2
  have p256 := pow256 Zk.1.2
  unfold fX6_behind fX6_behind_b0
  rw [hx5, nI_1]
  by_cases hl : g + 1 < tn1 Z
  · rw [if_pos (nI_lt hl (by omega))]
    unfold fX6_behind_b14
    dsimp only [lt]
    rw [nI_1, chk_t (inb_t (by omega) (by decide)), chk_t (inb_t (by omega) (by decide)), nI_clamp (n := g + 1) (by omega), nI_clamp (n := had) (by omega), T (g + 1) (Nat.le_refl _) hl had hh hp]
    rfl
  · rw [if_neg (nI_nlt (by omega) (by omega)), show tn1 Z - (g + 1) = 0 by omega]
    rfl
theorem x_worthOf (Zk : tOK Z) (C : cSit 21 Z S h d qs) (hg : g < tn1 Z) (hk : k < tn0 Z) (hh : had < 2 ^ tn0 Z) (hp : pcN had ≤ g) (T : TB Z qs (g + 1) S) : fX6_worthOf N (xtw S) (nI g) (nI k) (nI had) S = some (nI (1000 * (tn1 Z - g) - (prN Z k + LN Z qs (tn1 Z - (g + 1)) (had ||| 2 ^ k))), S) := by
  have z6 := Zk.2.1.2
  have z8 := Zk.1.2
  have p256 := pow256 z8
  obtain ⟨p1, p2⟩ := pr_ok Zk hk
  obtain ⟨o1, o2, o3⟩ := or_all had (by omega) k (by omega)
  have hl := LN_le (Z := Z) (qs := qs) (tn1 Z - (g + 1)) (had ||| 2 ^ k)
  unfold fX6_worthOf fX6_worthOf_b0
  rw [chk_t (inb_t (by omega) (by decide)), o1, bnd_t (x_behind Zk ((C.1 0 5 (by omega) (by omega)).trans Zk.2.1.1) hg (or_lt hh hk) (by omega) T), nI_clamp (by omega), C.1 3 k (by omega) (by omega), p1, show (1000 : Int32) = nI 1000 from rfl, pk_sub (by omega), nI_add]
  have e : 1000 - prN Z k + (1000 * (tn1 Z - (g + 1)) - LN Z qs (tn1 Z - (g + 1)) (had ||| 2 ^ k)) = 1000 * (tn1 Z - g) - (prN Z k + LN Z qs (tn1 Z - (g + 1)) (had ||| 2 ^ k)) := by omega
  rw [e]
theorem LN_s (hg : g < tn1 Z) : LN Z qs (tn1 Z - g) had = mnF (1000 + LN Z qs (tn1 Z - (g + 1)) had) (mayN Z qs g had) (fun k => prN Z k + LN Z qs (tn1 Z - (g + 1)) (had ||| 2 ^ k)) (tn0 Z) := by
  have e : tn1 Z - g = (tn1 Z - (g + 1)) + 1 := by omega
  rw [e]
  show mnF _ (mayN Z qs (tn1 Z - (tn1 Z - (g + 1) + 1)) had) _ _ = _
  rw [show tn1 Z - (tn1 Z - (g + 1) + 1) = g by omega]
theorem x_bestOf (Zk : tOK Z) (C : cSit 21 Z S h d qs) (K : qsOK Z (Z 5) qs) (hg : g < tn1 Z) (hh : had < 2 ^ tn0 Z) (hp : pcN had ≤ g) (T : TB Z qs (g + 1) S) : fX6_bestOf 5000 (xtw S) 21 (nI g) (nI had) S = some (nI (1000 * (tn1 Z - g) - LN Z qs (tn1 Z - g) had), S) := by
  have z6 := Zk.2.1.2
  have z8 := Zk.1.2
  have p256 := pow256 z8
  have x0 : S (xtw S) 0 = nI (tn0 Z) := (C.1 0 0 (by omega) (by omega)).trans Zk.1.1
  obtain ⟨A, hA⟩ : ∃ z : Nat → Nat, z = mnF (1000 + LN Z qs (tn1 Z - (g + 1)) had) (mayN Z qs g had) (fun k => prN Z k + LN Z qs (tn1 Z - (g + 1)) (had ||| 2 ^ k)) := ⟨_, rfl⟩
  have hl0 := LN_le (Z := Z) (qs := qs) (tn1 Z - (g + 1)) had
  have hAle : ∀ k, A k ≤ 1000 + LN Z qs (tn1 Z - (g + 1)) had := fun k => by rw [hA]; exact mnF_le k
  have main : Gv (fX6_bestOf_h13 5000 5000 (xtw S) 21 (nI g) (nI had) (nI (1000 * (tn1 Z - g) - A 0)) 0 S) (fun r => r = (nI (1000 * (tn1 Z - g) - A (tn0 Z)), S)) := by
    refine loopG (A := Unit) (fun f k _ => fX6_bestOf_h13 5000 f (xtw S) 21 (nI g) (nI had) (nI (1000 * (tn1 Z - g) - A k)) (nI k) S) (fun _ _ => True) _ (tn0 Z) ?_ ?_ (tn0 Z) 0 () 5000 (by omega) trivial (by omega)
    · rintro f a -
      refine ⟨_, ?_, rfl⟩
      show fX6_bestOf_b13 5000 _ (xtw S) 21 _ _ _ (nI (tn0 Z)) S = _
      unfold fX6_bestOf_b13
      rw [x0, if_pos (nI_le (Nat.le_refl _) (by omega))]
      rfl
    · rintro f k a hk -
      refine Or.inr ⟨(), trivial, ?_⟩
      have eA : A (k + 1) = if mayN Z qs g had k = true then (if prN Z k + LN Z qs (tn1 Z - (g + 1)) (had ||| 2 ^ k) < A k then prN Z k + LN Z qs (tn1 Z - (g + 1)) (had ||| 2 ^ k) else A k) else A k := by
        rw [hA]
        rfl
      have hl := LN_le (Z := Z) (qs := qs) (tn1 Z - (g + 1)) (had ||| 2 ^ k)
      obtain ⟨p1, p2⟩ := pr_ok Zk hk
      have hAk := hAle k
      show fX6_bestOf_b13 5000 (fX6_bestOf_h13 5000 f) (xtw S) 21 (nI g) (nI had) (nI (1000 * (tn1 Z - g) - A k)) (nI k) S = fX6_bestOf_h13 5000 f (xtw S) 21 (nI g) (nI had) (nI (1000 * (tn1 Z - g) - A (k + 1))) (nI (k + 1)) S
      unfold fX6_bestOf_b13
      rw [x0, if_neg (nI_ge hk (by omega))]
      unfold fX6_bestOf_b22
      rw [bnd_t (x_canHave Zk C K hg hk (by omega)), eA]
      cases hm : mayN Z qs g had k with
      | false =>
        show fX6_bestOf_b52 5000 (fX6_bestOf_h13 5000 f) (xtw S) 21 (nI g) (nI had) (nI (1000 * (tn1 Z - g) - A k)) (nI k) S = fX6_bestOf_h13 5000 f (xtw S) 21 (nI g) (nI had) (nI (1000 * (tn1 Z - g) - A k)) (nI (k + 1)) S
        unfold fX6_bestOf_b52
        rw [nI_1]
      | true =>
        rw [if_pos rfl]
        show fX6_bestOf_b35 5000 (fX6_bestOf_h13 5000 f) (xtw S) 21 (nI g) (nI had) (nI (1000 * (tn1 Z - g) - A k)) (nI k) S = _
        unfold fX6_bestOf_b35
        rw [bnd_t (x_worthOf Zk C hg hk hh hp T)]
        unfold fX6_bestOf_b52
        rw [nI_1]
        dsimp only
        by_cases hv : prN Z k + LN Z qs (tn1 Z - (g + 1)) (had ||| 2 ^ k) < A k
        · rw [if_pos hv, if_pos (nI_lt (by omega) (by omega))]
        · rw [if_neg hv, if_neg (nI_nlt (by omega) (by omega))]
  obtain ⟨r, r1, rfl⟩ := main
  unfold fX6_bestOf fX6_bestOf_b0
  rw [bnd_t (x_behind Zk ((C.1 0 5 (by omega) (by omega)).trans Zk.2.1.1) hg hh (by omega) T), LN_s hg, ← hA]
  have e0 : 1000 * (tn1 Z - (g + 1)) - LN Z qs (tn1 Z - (g + 1)) had = 1000 * (tn1 Z - g) - A 0 := by
    rw [hA]
    show _ = 1000 * (tn1 Z - g) - (1000 + LN Z qs (tn1 Z - (g + 1)) had)
    omega
  dsimp only
  rw [e0]
  exact r1
end
noncomputable def xSh (i _j : Nat) : Bool := 52 ≤ i && i ≤ 61
theorem xSh_t {i j : Nat} (h : 52 ≤ i ∧ i ≤ 61) : xSh i j = true := by
  unfold xSh
  rw [decide_eq_true h.1, decide_eq_true h.2]
  rfl
theorem xSh.same {S S' : gS} (s : oSame xSh S S') : xSame S S' := by
  intro i j h
  refine s i j ?_
  cases hh : xSh i j with
  | false => rfl
  | true =>
    exfalso
    unfold xSh at hh
    rw [Bool.and_eq_true, decide_eq_true_iff, decide_eq_true_iff] at hh
    rcases (show i = 52 ∨ i = 53 ∨ i = 54 ∨ i = 55 ∨ i = 56 ∨ i = 57 ∨ i = 58 ∨ i = 59 ∨ i = 60 ∨ i = 61 by omega) with r | r | r | r | r | r | r | r | r | r <;> rw [r] at h <;> cases h
