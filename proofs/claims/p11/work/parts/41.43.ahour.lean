/-! AN HOUR: a pure picture, and both sides -/
def Gv {α : Type} (x : Option α) (P : α → Prop) : Prop := ∃ a, x = some a ∧ P a
theorem Gv.b {α β : Type} {x : Option α} {f : α → Option β} {P : β → Prop} (h : Gv x (fun a => Gv (f a) P)) : Gv (bnd x f) P := by
  obtain ⟨a, rfl, h2⟩ := h
  exact h2
theorem Gv.m {α : Type} {x : Option α} {P Q : α → Prop} (h : Gv x P) (k : ∀ a, P a → Q a) : Gv x Q := by
  obtain ⟨a, h1, h2⟩ := h
  exact ⟨a, h1, k a h2⟩
theorem Gv.s {α : Type} {a : α} {P : α → Prop} (h : P a) : Gv (some a) P := ⟨a, rfl, h⟩
/-- loops that count up to n -/
theorem loopG {A R : Type} (H : Nat → Nat → A → Option R) (I : Nat → A → Prop) (Q : R → Prop) (n : Nat) (he : ∀ f a, I n a → Gv (H (f + 1) n a) Q) (hs : ∀ f k a, k < n → I k a → Gv (H (f + 1) k a) Q ∨ ∃ a', I (k + 1) a' ∧ H (f + 1) k a = H f (k + 1) a') : ∀ (m k : Nat) (a : A) (fuel : Nat), k + m = n → I k a → m < fuel → Gv (H fuel k a) Q := by
  intro m
  induction m with
  | zero =>
    intro k a fuel h1 h2 h3
    obtain ⟨f, rfl⟩ : ∃ f, fuel = f + 1 := ⟨fuel - 1, by omega⟩
    have : k = n := by omega
    subst this
    exact he f a h2
  | succ m ih =>
    intro k a fuel h1 h2 h3
    obtain ⟨f, rfl⟩ : ∃ f, fuel = f + 1 := ⟨fuel - 1, by omega⟩
    rcases hs f k a (by omega) h2 with h | ⟨a', h4, h5⟩
    · exact h
    · rw [h5]
      exact ih (k + 1) a' f (by omega) h4 (by omega)
/-! the town as a picture: Z i is the row in the class's cell T + i -/
noncomputable def tn0 (Z : gS) : Nat := (Z 0 0).toNatClampNeg
noncomputable def tn1 (Z : gS) : Nat := (Z 0 5).toNatClampNeg
noncomputable def tnw (Z : gS) : Nat := (Z 0 10).toNatClampNeg
noncomputable def tnb (Z : gS) : Nat := (Z 0 12).toNatClampNeg
noncomputable def tnp (Z : gS) : Nat := (Z 10 3).toNatClampNeg
noncomputable def tnc (Z : gS) : Nat := (Z 13 3).toNatClampNeg
def tOK (Z : gS) : Prop :=
  (Z 0 0 = nI (tn0 Z) ∧ tn0 Z ≤ 8) ∧ (Z 0 5 = nI (tn1 Z) ∧ tn1 Z ≤ 6) ∧ (Z 0 10 = nI (tnw Z) ∧ tnw Z ≤ 8 ∧ ∀ i, i < tnw Z → ∃ x : Nat, x ≤ 9 ∧ Z 9 i = nI x) ∧ (Z 0 12 = nI (tnb Z) ∧ tnb Z ≤ 99) ∧
  (∀ k, k < tn0 Z → (∃ x : Nat, 1 ≤ x ∧ x ≤ 12 ∧ Z 1 k = nI x) ∧ (∃ x : Nat, x ≤ 11 ∧ Z 2 k = nI x) ∧ (∃ x : Nat, x ≤ 20 ∧ Z 3 k = nI x) ∧ (Z 4 k = 0 ∨ Z 4 k = 1)) ∧
  (∀ g, g < tn1 Z → ∃ x : Nat, x ≤ 9 ∧ Z 5 g = nI x) ∧ (Z 10 3 = nI (tnp Z) ∧ tnp Z ≤ 700 ∧ rOK (Z 11) (tnp Z)) ∧ (Z 13 3 = nI (tnc Z) ∧ tnc Z ≤ 700 ∧ rOK (Z 14) (tnc Z))
def tXz (T : Nat) (Z S : gS) : Prop := ∀ i j, i ≤ 14 → i ≠ 12 → S (T + i) j = Z i j
def tM (Z S : gS) : Prop :=
  S 5 0 = nI (tn0 Z) ∧ S 5 1 = nI (tn1 Z) ∧ S 5 2 = bndS (tnb Z) ∧ S 5 3 = nI (tnw Z) ∧ S 5 4 = nI (tnp Z) ∧ S 5 5 = nI (tnc Z) ∧ (∀ i, i < tnw Z → S 14 i = Z 9 i) ∧
  (∀ k, k < tn0 Z → S 7 k = Z 1 k ∧ S 8 k = Z 2 k ∧ S 9 k = Z 3 k ∧ S 6 k = Z 4 k) ∧ (∀ i, i < tnp Z → S 15 i = sgn (Z 11 i)) ∧ (∀ i, i < tnc Z → S 16 i = sgn (Z 14 i))
theorem tM.on {Z S S' : gS} (h : tM Z S) (e : ∀ i j, 5 ≤ i → i ≤ 16 → S' i j = S i j) : tM Z S' := by
  obtain ⟨h1, h2, h3, h4, h5, h6, h7, h8, h9, h10⟩ := h
  refine ⟨?_, ?_, ?_, ?_, ?_, ?_, fun i hi => ?_, fun k hk => ?_, fun i hi => ?_, fun i hi => ?_⟩
  · rw [e 5 0 (by omega) (by omega)]; exact h1
  · rw [e 5 1 (by omega) (by omega)]; exact h2
  · rw [e 5 2 (by omega) (by omega)]; exact h3
  · rw [e 5 3 (by omega) (by omega)]; exact h4
  · rw [e 5 4 (by omega) (by omega)]; exact h5
  · rw [e 5 5 (by omega) (by omega)]; exact h6
  · rw [e 14 i (by omega) (by omega)]; exact h7 i hi
  · rw [e 7 k (by omega) (by omega), e 8 k (by omega) (by omega), e 9 k (by omega) (by omega), e 6 k (by omega) (by omega)]; exact h8 k hk
  · rw [e 15 i (by omega) (by omega)]; exact h9 i hi
  · rw [e 16 i (by omega) (by omega)]; exact h10 i hi
noncomputable def bdZ (Z : gS) : Int32 := bndS (tnb Z)
noncomputable def wetZ (Z : gS) (h : Nat) : Int32 := wetS (tnw Z) (Z 9) h
noncomputable def drZ (Z : gS) (k : Nat) (ho we d : Int32) : Bool := drS (Z 2 k) (Z 1 k) ho we (bt d (nI k))
noncomputable def prS (v si : Int32) : Int32 := si - (if 0 < (if v < si then v else si) then (if v < si then v else si) else 0)
noncomputable def prZ (Z : gS) (k : Nat) (si pu we ho gr : Int32) : Int32 := prS (if tnp Z = 0 then 5 else rV (Z 11) (tnp Z) (env Z k si pu we ho gr)) si
noncomputable def c50 (v : Int32) : Int32 := if 0 < (if v < 50 then v else 50) then (if v < 50 then v else 50) else 0
noncomputable def coZ (Z : gS) (k : Nat) (si pu we ho gr : Int32) : Int32 := c50 (if tnc Z = 0 then Z 3 k else rV (Z 14) (tnc Z) (env Z k si pu we ho gr))
noncomputable def hp1 (e pu : Int32) : Int32 := if pu + 3 * e < 999 then pu + 3 * e else 999
noncomputable def hs1 (e si : Int32) : Int32 := if si + e < 99 then si + e else 99
noncomputable def sl1 (l : Int32) : Int32 := if l + 1 < 999 then l + 1 else 999
/-- SIN, PURSE, SILENCES, the GROTTO -/
abbrev qT : Type := Int32 × Int32 × Int32 × Int32
noncomputable def qk (q : qT) : Nat := q.2.2.2.toNatClampNeg
noncomputable def prD (Z : gS) (k : Nat) (si pu we ho gr : Int32) : Int32 := if Z 4 k = 0 then prZ Z k si pu we ho gr else prZ Z k (prZ Z k si pu we ho gr) pu we ho gr
noncomputable def sn1 (Z : gS) (e d we ho : Int32) (q : qT) : Int32 := if q.2.2.2 = -1 then q.1 else if drZ Z (qk q) ho we d = true then prD Z (qk q) q.1 q.2.1 we ho e else q.1
noncomputable def fS (e : Int32) (q : qT) : Int32 := hs1 e q.1
noncomputable def fP (e : Int32) (q : qT) : Int32 := hp1 e q.2.1
noncomputable def fC (Z : gS) (e we ho : Int32) (q : qT) : Int32 := coZ Z (qk q) (fS e q) (fP e q) we ho e
noncomputable def fH (Z : gS) (e we ho : Int32) (q : qT) : Int32 × Int32 := if q.2.2.2 = -1 then (fP e q, -1) else if fP e q < fC Z e we ho q then (fP e q, -1) else (fP e q - fC Z e we ho q, q.2.2.2)
noncomputable def fB (Z : gS) (e : Int32) (q : qT) : Bool := decide (¬ fS e q ≤ bdZ Z)
noncomputable def hFin (Z : gS) (e we ho : Int32) (q : qT) : Bool × qT := (fB Z e q, (fS e q, (if fB Z e q = true then (fH Z e we ho q).1 / 2 else (fH Z e we ho q).1), (if fB Z e q = true then sl1 q.2.2.1 else q.2.2.1), (fH Z e we ho q).2))
noncomputable def hG (Z : gS) (e d we ho : Int32) (q : qT) : Bool × qT := hFin Z e we ho (sn1 Z e d we ho q, q.2)
def qOK (n0 : Nat) (q : qT) : Prop := (0 ≤ q.1 ∧ q.1 ≤ 99) ∧ (0 ≤ q.2.1 ∧ q.2.1 ≤ 999) ∧ (0 ≤ q.2.2.1 ∧ q.2.2.1 ≤ 999) ∧ (q.2.2.2 = -1 ∨ ∃ k : Nat, k < n0 ∧ q.2.2.2 = nI k)
theorem i32_99 {x : Int32} (h : 0 ≤ x ∧ x ≤ 99) : ∃ v : Nat, v ≤ 99 ∧ x = nI v := i32_nat (m := 99) (by decide) h.1 h.2
theorem i32_999 {x : Int32} (h : 0 ≤ x ∧ x ≤ 999) : ∃ v : Nat, v ≤ 999 ∧ x = nI v := i32_nat (m := 999) (by decide) h.1 h.2
theorem of_99 {v : Nat} (h : v ≤ 99) : 0 ≤ nI v ∧ nI v ≤ 99 := ⟨nI_pos' (by omega), nI_le (b := 99) h (by decide)⟩
theorem of_999 {v : Nat} (h : v ≤ 999) : 0 ≤ nI v ∧ nI v ≤ 999 := ⟨nI_pos' (by omega), nI_le (b := 999) h (by decide)⟩
theorem hs1_n {e x : Nat} (he : e ≤ 9) (hx : x ≤ 99) : hs1 (nI e) (nI x) = nI (min 99 (x + e)) := by
  unfold hs1
  rw [nI_add]
  by_cases h : x + e < 99
  · rw [if_pos (show nI (x + e) < 99 from nI_lt (b := 99) h (by decide)), show min 99 (x + e) = x + e by omega]
  · rw [if_neg (show ¬ nI (x + e) < 99 from nI_nlt (b := 99) (by omega) (by omega)), show min 99 (x + e) = 99 by omega]
    rfl
theorem hp1_n {e x : Nat} (he : e ≤ 9) (hx : x ≤ 999) : hp1 (nI e) (nI x) = nI (min 999 (x + 3 * e)) := by
  unfold hp1
  rw [show (3 : Int32) = nI 3 from rfl, pk_mul, nI_add]
  by_cases h : x + 3 * e < 999
  · rw [if_pos (show nI (x + 3 * e) < 999 from nI_lt (b := 999) h (by decide)), show min 999 (x + 3 * e) = x + 3 * e by omega]
  · rw [if_neg (show ¬ nI (x + 3 * e) < 999 from nI_nlt (b := 999) (by omega) (by omega)), show min 999 (x + 3 * e) = 999 by omega]
    rfl
theorem sl1_n {x : Nat} (hx : x ≤ 999) : sl1 (nI x) = nI (min 999 (x + 1)) := by
  unfold sl1
  rw [nI_1]
  by_cases h : x + 1 < 999
  · rw [if_pos (show nI (x + 1) < 999 from nI_lt (b := 999) h (by decide)), show min 999 (x + 1) = x + 1 by omega]
  · rw [if_neg (show ¬ nI (x + 1) < 999 from nI_nlt (b := 999) (by omega) (by omega)), show min 999 (x + 1) = 999 by omega]
    rfl
theorem prS_n {v : Int32} {x : Nat} (hx : x ≤ 99) : ∃ y : Nat, y ≤ x ∧ prS v (nI x) = nI y := by
  unfold prS
  have key : ∀ u : Int32, u ≤ nI x → ∃ y : Nat, y ≤ x ∧ nI x - (if 0 < u then u else 0) = nI y := by
    intro u hu
    by_cases h : 0 < u
    · obtain ⟨z, hz, rfl⟩ := i32_nat (x := u) (m := x) (by omega) (Int32.le_of_lt h) hu
      exact ⟨x - z, by omega, by rw [if_pos h, pk_sub hz]⟩
    · exact ⟨x, Nat.le_refl _, by rw [if_neg h, Int32.sub_zero]⟩
  refine key _ ?_
  by_cases h : v < nI x
  · rw [if_pos h]
    exact Int32.le_of_lt h
  · rw [if_neg h]
    exact Int32.le_refl _
theorem c50_n (v : Int32) : ∃ y : Nat, y ≤ 50 ∧ c50 v = nI y := by
  unfold c50
  have key : ∀ u : Int32, u ≤ 50 → ∃ y : Nat, y ≤ 50 ∧ (if 0 < u then u else 0) = nI y := by
    intro u hu
    by_cases h : 0 < u
    · obtain ⟨z, hz, rfl⟩ := i32_nat (x := u) (m := 50) (by decide) (Int32.le_of_lt h) hu
      exact ⟨z, hz, by rw [if_pos h]⟩
    · exact ⟨0, by omega, by rw [if_neg h]; rfl⟩
  refine key _ ?_
  by_cases h : v < 50
  · rw [if_pos h]
    exact Int32.le_of_lt h
  · rw [if_neg h]
    exact Int32.le_refl _
theorem prZ_ok {Z : gS} {k : Nat} {si pu we ho gr : Int32} (h : 0 ≤ si ∧ si ≤ 99) : 0 ≤ prZ Z k si pu we ho gr ∧ prZ Z k si pu we ho gr ≤ 99 := by
  obtain ⟨x, hx, rfl⟩ := i32_99 h
  obtain ⟨y, hy, e⟩ := prS_n (v := if tnp Z = 0 then 5 else rV (Z 11) (tnp Z) (env Z k (nI x) pu we ho gr)) hx
  unfold prZ
  rw [e]
  exact of_99 (by omega)
theorem sn1_ok {Z : gS} {e d we ho : Int32} {q : qT} (h : 0 ≤ q.1 ∧ q.1 ≤ 99) : 0 ≤ sn1 Z e d we ho q ∧ sn1 Z e d we ho q ≤ 99 := by
  unfold sn1
  by_cases h1 : q.2.2.2 = -1
  · rw [if_pos h1]; exact h
  · rw [if_neg h1]
    by_cases h2 : drZ Z (qk q) ho we d = true
    · rw [if_pos h2]
      unfold prD
      by_cases h3 : Z 4 (qk q) = 0
      · rw [if_pos h3]; exact prZ_ok h
      · rw [if_neg h3]; exact prZ_ok (prZ_ok h)
    · rw [if_neg h2]; exact h
theorem hFin_ok {Z : gS} {n0 : Nat} {e we ho : Int32} {q : qT} (h : qOK n0 q) (he : ∃ x : Nat, x ≤ 9 ∧ e = nI x) : qOK n0 (hFin Z e we ho q).2 := by
  obtain ⟨h1, h2, h3, h4⟩ := h
  obtain ⟨x, hx, rfl⟩ := he
  obtain ⟨a, ha, ea⟩ := i32_99 h1
  obtain ⟨b, hb, eb⟩ := i32_999 h2
  obtain ⟨c, hc, ec⟩ := i32_999 h3
  have hP : fP (nI x) q = nI (min 999 (b + 3 * x)) := by unfold fP; rw [eb, hp1_n hx hb]
  have hS : fS (nI x) q = nI (min 99 (a + x)) := by unfold fS; rw [ea, hs1_n hx ha]
  have hH : (∃ p : Nat, p ≤ 999 ∧ (fH Z (nI x) we ho q).1 = nI p) ∧ ((fH Z (nI x) we ho q).2 = -1 ∨ (fH Z (nI x) we ho q).2 = q.2.2.2) := by
    unfold fH
    by_cases h5 : q.2.2.2 = -1
    · rw [if_pos h5]
      exact ⟨⟨_, by omega, hP⟩, Or.inl rfl⟩
    · rw [if_neg h5]
      by_cases h6 : fP (nI x) q < fC Z (nI x) we ho q
      · rw [if_pos h6]
        exact ⟨⟨_, by omega, hP⟩, Or.inl rfl⟩
      · rw [if_neg h6]
        refine ⟨?_, Or.inr rfl⟩
        obtain ⟨y, hy, e1⟩ : ∃ y : Nat, y ≤ 50 ∧ fC Z (nI x) we ho q = nI y := c50_n _
        rw [hP, e1] at h6 ⊢
        have h7 : y ≤ min 999 (b + 3 * x) := by
          have := mt (nI_ltI (a := min 999 (b + 3 * x)) (b := y) (by omega) (by omega)).mpr h6
          omega
        exact ⟨min 999 (b + 3 * x) - y, by omega, pk_sub h7⟩
  obtain ⟨⟨p, hp, ep⟩, hh⟩ := hH
  refine ⟨?_, ?_, ?_, ?_⟩
  · show 0 ≤ fS (nI x) q ∧ fS (nI x) q ≤ 99
    rw [hS]
    exact of_99 (by omega)
  · show 0 ≤ (if fB Z (nI x) q = true then (fH Z (nI x) we ho q).1 / 2 else (fH Z (nI x) we ho q).1) ∧ (if fB Z (nI x) q = true then (fH Z (nI x) we ho q).1 / 2 else (fH Z (nI x) we ho q).1) ≤ 999
    rw [ep, show (2 : Int32) = nI 2 from rfl, pk_div (by omega) (by decide) (by decide)]
    by_cases hb : fB Z (nI x) q = true
    · rw [if_pos hb]; exact of_999 (by omega)
    · rw [if_neg hb]; exact of_999 (by omega)
  · show 0 ≤ (if fB Z (nI x) q = true then sl1 q.2.2.1 else q.2.2.1) ∧ (if fB Z (nI x) q = true then sl1 q.2.2.1 else q.2.2.1) ≤ 999
    rw [ec, sl1_n hc]
    by_cases hb : fB Z (nI x) q = true
    · rw [if_pos hb]; exact of_999 (by omega)
    · rw [if_neg hb]; exact of_999 (by omega)
  · show (fH Z (nI x) we ho q).2 = -1 ∨ ∃ k : Nat, k < n0 ∧ (fH Z (nI x) we ho q).2 = nI k
    rcases hh with hh | hh
    · exact Or.inl hh
    · rw [hh]; exact h4
theorem fH_hired {Z : gS} {e we ho : Int32} {q : qT} : (fH Z e we ho q).2 = -1 ∨ (fH Z e we ho q).2 = q.2.2.2 := by
  unfold fH
  by_cases h5 : q.2.2.2 = -1
  · rw [if_pos h5]; exact Or.inl rfl
  · rw [if_neg h5]
    by_cases h6 : fP e q < fC Z e we ho q
    · rw [if_pos h6]; exact Or.inl rfl
    · rw [if_neg h6]; exact Or.inr rfl
theorem hG_ok {Z : gS} {n0 : Nat} {e d we ho : Int32} {q : qT} (h : qOK n0 q) (he : ∃ x : Nat, x ≤ 9 ∧ e = nI x) : qOK n0 (hG Z e d we ho q).2 := hFin_ok ⟨sn1_ok h.1, h.2⟩ he
theorem hG_hired {Z : gS} {e d we ho : Int32} {q : qT} : (hG Z e d we ho q).2.2.2.2 = -1 ∨ (hG Z e d we ho q).2.2.2.2 = q.2.2.2 := fH_hired (q := (sn1 Z e d we ho q, q.2))
