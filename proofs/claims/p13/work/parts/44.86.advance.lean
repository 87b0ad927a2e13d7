noncomputable def ruP (c : Nat → Bool) : Nat → Nat → Nat
  | 0, q => q
  | m + 1, q => if c q = true then ruP c m (q + 1) else q
theorem ruP_le {c : Nat → Bool} : ∀ m q, q ≤ ruP c m q ∧ ruP c m q ≤ q + m := by
  intro m
  induction m with
  | zero => intro q; exact ⟨Nat.le_refl _, Nat.le_refl _⟩
  | succ m ih =>
    intro q
    show q ≤ (if c q = true then ruP c m (q + 1) else q) ∧ (if c q = true then ruP c m (q + 1) else q) ≤ q + (m + 1)
    by_cases h : c q = true
    · rw [if_pos h]
      have := ih (q + 1)
      omega
    · rw [if_neg h]
      omega
theorem ruP_t {c : Nat → Bool} {m q : Nat} (h : c q = true) : ruP c (m + 1) q = ruP c m (q + 1) := if_pos h
theorem ruP_f {c : Nat → Bool} {m q : Nat} (h : c q = false) : ruP c m q = q := by
  cases m with
  | zero => rfl
  | succ m => exact if_neg (by rw [h]; decide)
theorem ruP_st {c : Nat → Bool} : ∀ m q, ruP c m q < q + m → c (ruP c m q) = false := by
  intro m
  induction m with
  | zero => intro q h; exact absurd h (by show ¬ q < q + 0; omega)
  | succ m ih =>
    intro q h
    cases hc : c q with
    | true =>
      rw [ruP_t hc] at h ⊢
      exact ih (q + 1) (by omega)
    | false =>
      rw [ruP_f hc]
      exact hc
noncomputable def nuN (B : Nat → Nat) (s : Nat) : Nat → Nat
  | 0 => 0
  | i + 1 => nuN B s i * 10 + (B (s + i) - 48)
theorem kd2 : ∀ b, b < 256 → kd b = 2 → 48 ≤ b ∧ b ≤ 57 := by decide +kernel
theorem nuN_lt {B : Nat → Nat} {s : Nat} : ∀ i, (∀ j, j < i → 48 ≤ B (s + j) ∧ B (s + j) ≤ 57) → nuN B s i < 10 ^ i := by
  intro i
  induction i with
  | zero => intro _; exact (by decide : 0 < 10 ^ 0)
  | succ i ih =>
    intro h
    have h1 := ih (fun j hj => h j (by omega))
    have h2 := h i (by omega)
    show nuN B s i * 10 + (B (s + i) - 48) < 10 ^ (i + 1)
    rw [Nat.pow_succ]
    omega
noncomputable def kdB (B : Nat → Nat) (k q : Nat) : Bool := decide (kd (B q) = k)
def byX (B : Nat → Nat) (n : Nat) (S : gS) : Prop := n ≤ 700 ∧ ∀ i, i < n → B i < 256 ∧ (S 3 i &&& 255) = nI (B i)
def byM (B : Nat → Nat) (n : Nat) (SM : gS) : Prop := n ≤ 700 ∧ ∀ i, i < n → B i < 256 ∧ SM 19 i = nI (B i)
noncomputable def xTk (i j : Nat) : Bool := i == 2 && (3 ≤ j && j ≤ 6)
noncomputable def mTk (i j : Nat) : Bool := i == 99 && (j == 21 || (23 ≤ j && j ≤ 26))
section
variable {B : Nat → Nat} {n s p k N : Nat} {S SM : gS}
theorem byX.on {S S' : gS} (b : byX B n S) (s : oSame xTk S S') : byX B n S' := ⟨b.1, fun i hi => ⟨(b.2 i hi).1, by rw [s 3 i rfl]; exact (b.2 i hi).2⟩⟩
theorem byM.on {S S' : gS} (b : byM B n S) (s : oSame mTk S S') : byM B n S' := ⟨b.1, fun i hi => ⟨(b.2 i hi).1, by rw [s 19 i rfl]; exact (b.2 i hi).2⟩⟩
theorem x_adv0 : ∀ (m p f : Nat) (S : gS), p + m = n → m < f → byX B n S → S 2 2 = nI n → S 2 3 = nI p → ∃ S', fX8_advance_h0 5000 f S = fX8_advance_b39 5000 S' ∧ S' 2 2 = nI n ∧ S' 2 3 = nI (ruP (kdB B 5) m p) ∧ oSame xTk S S' := by
  intro m
  induction m with
  | zero =>
    intro p f S hp hf b h2 h3
    obtain ⟨f, rfl⟩ : ∃ f', f = f' + 1 := ⟨f - 1, by omega⟩
    refine ⟨S, ?_, h2, h3, oSame.rf⟩
    show fX8_advance_b0 5000 _ S = _
    unfold fX8_advance_b0
    have := b.1
    rw [h2, h3, if_pos (nI_le (by omega) (by omega))]
  | succ m ih =>
    intro p f S hp hf b h2 h3
    obtain ⟨f, rfl⟩ : ∃ f', f = f' + 1 := ⟨f - 1, by omega⟩
    have b7 := b.1
    obtain ⟨c1, c2⟩ := b.2 p (by omega)
    have hk := (kd_x (B p) c1).2.2.1
    have hF : fX8_advance_h0 5000 (f + 1) S = if nI (kd (B p)) = 5 then fX8_advance_h0 5000 f (sU S 2 3 (nI (p + 1))) else fX8_advance_b39 5000 S := by
      show fX8_advance_b0 5000 (fX8_advance_h0 5000 f) S = _
      unfold fX8_advance_b0
      rw [h2, h3, if_neg (nI_ge (by omega) (by omega))]
      unfold fX8_advance_b11
      rw [h3, bnd_t (x_at (by omega)), c2]
      dsimp only
      rw [bnd_t (x_kindOf c1 (by decide))]
      unfold fX8_advance_b26
      dsimp only [lt]
      rw [h3, nI_1 p]
    by_cases q : kd (B p) = 5
    · have qc : kdB B 5 p = true := decide_eq_true q
      rw [hF, q, if_pos (by decide), ruP_t qc]
      obtain ⟨S', e1, e2, e3, e4⟩ := ih (p + 1) f (sU S 2 3 (nI (p + 1))) (by omega) (by omega) (b.on (oSame.rf.up rfl)) (by rw [sU_n (by omega)]; exact h2) (by rw [sU_ap, if_pos ⟨rfl, rfl⟩])
      exact ⟨S', e1, e2, e3, (oSame.rf.up rfl).tr e4⟩
    · have qc : kdB B 5 p = false := decide_eq_false q
      rw [hF, ruP_f qc, if_neg (show ¬ nI (kd (B p)) = 5 from fun z => q ((nI_eq (b := 5) (by omega) (by omega)).mp z))]
      exact ⟨S, rfl, h2, h3, oSame.rf⟩
/-- the end of the class's step: the number of a long row -/
theorem x_adv190 (hs : s ≤ p) (hp : p ≤ 700) (h3 : S 2 3 = nI p) (h5 : S 2 5 = nI s) : ∃ S', fX8_advance_b190 5000 S = some (0, S') ∧ (p - s ≤ 4 → S' = S) ∧ (4 < p - s → S' 2 6 = nI 10000) ∧ (∀ i j, ¬ (i = 2 ∧ j = 6) → S' i j = S i j) := by
  unfold fX8_advance_b190
  have e : S 2 3 - S 2 5 = nI (p - s) := by rw [h3, h5, pk_sub hs]
  rw [e]
  by_cases q : p - s ≤ 4
  · rw [if_pos (show nI (p - s) ≤ 4 from nI_le (b := 4) q (by decide))]
    exact ⟨S, rfl, fun _ => rfl, fun z => absurd z (by omega), fun _ _ _ => rfl⟩
  · rw [if_neg (show ¬ nI (p - s) ≤ 4 from nI_ge (a := 4) (by omega) (by omega))]
    exact ⟨sU S 2 6 10000, rfl, fun z => absurd z q, fun _ => by rw [sU_ap, if_pos ⟨rfl, rfl⟩]; rfl, fun i j z => sU_n z⟩
/-- one byte of a token -/
theorem x_adv148 {r : Int32 → gS → Option (Int32 × gS)} {x : Int32} {q : Nat} (b : byX B n S) (hq : q < n) (h3 : S 2 3 = nI q) : ∃ S', fX8_advance_b148 5000 r x S = r x S' ∧ S' 2 3 = nI (q + 1) ∧ (∀ v, v ≤ 999 → S 2 6 = nI v → 48 ≤ B q → S' 2 6 = nI (v * 10 + (B q - 48))) ∧ (∀ i j, ¬ (i = 2 ∧ (j = 3 ∨ j = 6)) → S' i j = S i j) := by
  have b7 := b.1
  obtain ⟨c1, c2⟩ := b.2 q hq
  obtain ⟨V, hV⟩ : ∃ z : Int32, z = (((if S 2 6 < 9999 then S 2 6 else 9999) * 10) + nI (B q)) - 48 := ⟨_, rfl⟩
  have e3 : sU S 2 6 V 2 3 = nI q := by rw [sU_n (by omega)]; exact h3
  refine ⟨sU (sU S 2 6 V) 2 3 (nI (q + 1)), ?_, ?_, ?_, ?_⟩
  · unfold fX8_advance_b148
    rw [h3, bnd_t (x_at (by omega)), c2]
    dsimp only [lt]
    rw [← hV, e3, nI_1 q]
  · rw [sU_ap, if_pos ⟨rfl, rfl⟩]
  · intro v hv h6 hb
    rw [sU_ap, if_neg (by omega), sU_ap, if_pos ⟨rfl, rfl⟩, hV, h6, if_pos (show nI v < 9999 from nI_lt (b := 9999) (by omega) (by decide)), show (10 : Int32) = nI 10 from rfl, pk_mul, nI_add, show (48 : Int32) = nI 48 from rfl, pk_sub (by omega)]
    rw [show v * 10 + B q - 48 = v * 10 + (B q - 48) by omega]
  · intro i j z
    rw [sU_n (by omega), sU_n (by omega)]
/-- a row of letters, or of digits -/
theorem x_advrow (hk : k = 1 ∨ k = 2) : ∀ (m q f : Nat) (S : gS), q + m = n → m < f → s ≤ q → (q = s → q < n → kd (B s) = k) → (∀ i, s ≤ i → i < q → kd (B i) = k) → byX B n S → S 2 2 = nI n → S 2 3 = nI q → S 2 5 = nI s → S 2 4 = nI k → (k = 2 → q - s ≤ 4 → S 2 6 = nI (nuN B s (q - s))) → ∃ S', fX8_advance_h104 5000 f 1 S = fX8_advance_b190 5000 S' ∧ S' 2 3 = nI (ruP (kdB B k) m q) ∧ (k = 2 → ruP (kdB B k) m q - s ≤ 4 → S' 2 6 = nI (nuN B s (ruP (kdB B k) m q - s))) ∧ (∀ i, s ≤ i → i < ruP (kdB B k) m q → kd (B i) = k) ∧ (∀ i j, ¬ (i = 2 ∧ (j = 3 ∨ j = 6)) → S' i j = S i j) := by
  intro m
  induction m with
  | zero =>
    intro q f S hq hf hs h0 hall b h2 h3 h5 h4 h6
    obtain ⟨f, rfl⟩ : ∃ f', f = f' + 1 := ⟨f - 1, by omega⟩
    have b7 := b.1
    refine ⟨S, ?_, h3, h6, hall, fun _ _ _ => rfl⟩
    show fX8_advance_b104 5000 _ 1 S = _
    unfold fX8_advance_b104
    rw [h2, h3, if_pos (nI_le (by omega) (by omega))]
  | succ m ih =>
    intro q f S hq hf hs h0 hall b h2 h3 h5 h4 h6
    obtain ⟨f, rfl⟩ : ∃ f', f = f' + 1 := ⟨f - 1, by omega⟩
    have b7 := b.1
    obtain ⟨c1, c2⟩ := b.2 q (by omega)
    have k5 := (kd_x (B q) c1).2.2.1
    have hF : fX8_advance_h104 5000 (f + 1) 1 S = if kd (B q) = k then fX8_advance_b148 5000 (fX8_advance_h104 5000 f) 1 S else fX8_advance_b190 5000 S := by
      show fX8_advance_b104 5000 (fX8_advance_h104 5000 f) 1 S = _
      unfold fX8_advance_b104
      rw [h2, h3, if_neg (nI_ge (by omega) (by omega))]
      unfold fX8_advance_b115
      rw [h3, h5]
      by_cases e : q = s
      · rw [if_pos (by rw [e]), if_pos (by rw [e]; exact h0 e (by omega))]
      · rw [if_neg (fun z => e ((nI_eq (by omega) (by omega)).mp z))]
        show fX8_advance_b130 5000 (fX8_advance_h104 5000 f) 1 S = _
        unfold fX8_advance_b130
        rw [h3, bnd_t (x_at (by omega)), c2]
        dsimp only
        rw [bnd_t (x_kindOf c1 (by decide))]
        dsimp only
        simp only [h4]
        by_cases e2 : kd (B q) = k
        · rw [e2, if_pos rfl, if_pos rfl]
        · rw [if_neg e2, if_neg (fun z => e2 ((nI_eq (by omega) (by omega)).mp z))]
    rw [hF]
    by_cases e2 : kd (B q) = k
    · rw [if_pos e2, ruP_t (show kdB B k q = true from decide_eq_true e2)]
      obtain ⟨S1, a1, a2, a3, a4⟩ := x_adv148 (r := fX8_advance_h104 5000 f) (x := 1) b (by omega) h3
      have s1 : oSame xTk S S1 := fun i j z => a4 i j (fun w => by
        rcases w with ⟨w1, w2 | w2⟩ <;> rw [w1, w2] at z <;> cases z)
      obtain ⟨S', e1, e3, e4, e5, e6⟩ := ih (q + 1) f S1 (by omega) (by omega) (by omega) (fun z => absurd z (by omega)) (fun i y1 y2 => by
        by_cases z : i = q
        · rw [z]; exact e2
        · exact hall i y1 (by omega)) (b.on s1) (by rw [a4 2 2 (by omega)]; exact h2) a2 (by rw [a4 2 5 (by omega)]; exact h5) (by rw [a4 2 4 (by omega)]; exact h4) (fun z1 z2 => by
          have hd : ∀ j, j < q - s → 48 ≤ B (s + j) ∧ B (s + j) ≤ 57 := fun j hj => kd2 _ (b.2 _ (by omega)).1 (by rw [← z1]; exact hall _ (by omega) (by omega))
          have hl := nuN_lt (B := B) (s := s) (q - s) hd
          have hp : (10 : Nat) ^ (q - s) ≤ 10 ^ 3 := Nat.pow_le_pow_right (by decide) (by omega)
          have h48 := kd2 _ c1 (by rw [← z1]; exact e2)
          rw [a3 (nuN B s (q - s)) (by omega) (h6 z1 (by omega)) h48.1, show q + 1 - s = (q - s) + 1 by omega]
          show _ = nI (nuN B s (q - s) * 10 + (B (s + (q - s)) - 48))
          rw [show s + (q - s) = q by omega])
      refine ⟨S', a1.trans e1, e3, e4, e5, fun i j z => (e6 i j z).trans (a4 i j z)⟩
    · rw [if_neg e2, ruP_f (show kdB B k q = false from decide_eq_false e2)]
      exact ⟨S, rfl, h3, h6, hall, fun _ _ _ => rfl⟩
end
