/-! part 72.mshare -/
section
noncomputable def m47 (i _j : Nat) : Bool := i == 47
theorem m47.same {S S' : gS} (s : oSame m47 S S') : mSame S S' := by
  intro i j h
  refine s i j ?_
  unfold m47
  refine beq_false_of_ne (fun q => ?_)
  rw [q] at h
  cases h
theorem div_all : ∀ a, a < 7 → ∀ b, b < 121 → nI (1000 * a + b) / 1000 = nI a ∧ nI (1000 * a + b) - nI a * 1000 = nI b := by decide +kernel
section
variable {N g had k : Nat} {Z S0 S : gS} {d : Int32} {h : Nat} {e : Nat → Int32} {qs : Nat → qT}
def RT (Z : gS) (qs : Nat → qT) (g0 : Nat) (S : gS) : Prop := ∀ g, g0 ≤ g → g ≤ tn1 Z → ∀ had, had < 2 ^ tn0 Z → S 47 (256 * g + had) = nI (LN Z qs (tn1 Z - g) had)
theorem m_with (Zk : tOK Z) (M : mSit Z S h d e qs) (hg : g < tn1 Z) (hk : k < tn0 Z) (hh : had < 2 ^ tn0 Z) (T : RT Z qs (g + 1) S) : fX12_with N (nI g) (nI had) (nI k) S = some (nI (prN Z k + LN Z qs (tn1 Z - (g + 1)) (had ||| 2 ^ k)), S) := by
  have z6 := Zk.2.1.2
  have z8 := Zk.1.2
  have p256 := pow256 z8
  obtain ⟨p1, p2⟩ := pr_ok Zk hk
  obtain ⟨o1, o2, o3⟩ := or_all had (by omega) k (by omega)
  have hl := or_lt hh hk
  unfold fX12_with fX12_with_b0
  rw [nI_1 g, shl8 (g + 1) (by omega), o1, nI_add, chk_t (inb_t (by omega) (by decide)), chk_t (inb_t (by omega) (by decide)), nI_clamp (n := k) (by omega), nI_clamp (by omega), (M.1.2.2.2.2.2.2.2.1 k hk).2.2.1, p1, T (g + 1) (Nat.le_refl _) (by omega) _ hl, nI_add]
theorem m_tell81 {r48 : Int32 → Int32 → gS → Option (Int32 × gS)} {r54 : Int32 → Int32 → Int32 → gS → Option (Int32 × gS)} {x1 : Int32} (Zk : tOK Z) (M : mSit Z S h d e qs) (K : qsOK Z e qs) (hg : g < tn1 Z) (hh : had < 2 ^ tn0 Z) (T : RT Z qs (g + 1) S) : fX12_tellLeast_b59 5000 r48 r54 x1 (nI g) (nI had) S = r54 x1 (nI g) (nI (had + 1)) (sU S 47 (256 * g + had) (nI (LN Z qs (tn1 Z - g) had))) := by
  have z6 := Zk.2.1.2
  have z8 := Zk.1.2
  have p256 := pow256 z8
  have m0 : S 5 0 = nI (tn0 Z) := M.1.1
  obtain ⟨A, hA⟩ : ∃ z : Nat → Nat, z = mnF (1000 + LN Z qs (tn1 Z - (g + 1)) had) (mayN Z qs g had) (fun k => prN Z k + LN Z qs (tn1 Z - (g + 1)) (had ||| 2 ^ k)) := ⟨_, rfl⟩
  have hl0 := LN_le (Z := Z) (qs := qs) (tn1 Z - (g + 1)) had
  have hAle : ∀ k, A k ≤ 1000 + LN Z qs (tn1 Z - (g + 1)) had := fun k => by rw [hA]; exact mnF_le k
  have main : ∀ (m k f : Nat), k + m = tn0 Z → m < f → fX12_tellLeast_h81 5000 r48 r54 f x1 (nI g) (nI had) (nI (A k)) (nI k) S = fX12_tellLeast_b124 5000 r48 r54 x1 (nI g) (nI had) (nI (A (tn0 Z))) S := by
    intro m
    induction m with
    | zero =>
      intro k f hk hf
      obtain ⟨f, rfl⟩ : ∃ f', f = f' + 1 := ⟨f - 1, by omega⟩
      obtain rfl : k = tn0 Z := by omega
      show fX12_tellLeast_b81 5000 r48 r54 _ x1 (nI g) (nI had) _ (nI (tn0 Z)) S = _
      unfold fX12_tellLeast_b81
      rw [m0, if_pos (nI_le (Nat.le_refl _) (by omega))]
    | succ m ih =>
      intro k f hk hf
      obtain ⟨f, rfl⟩ : ∃ f', f = f' + 1 := ⟨f - 1, by omega⟩
      have eA : A (k + 1) = if mayN Z qs g had k = true then (if prN Z k + LN Z qs (tn1 Z - (g + 1)) (had ||| 2 ^ k) < A k then prN Z k + LN Z qs (tn1 Z - (g + 1)) (had ||| 2 ^ k) else A k) else A k := by
        rw [hA]
        rfl
      rw [← ih (k + 1) f (by omega) (by omega), eA]
      have hl := LN_le (Z := Z) (qs := qs) (tn1 Z - (g + 1)) (had ||| 2 ^ k)
      obtain ⟨p1, p2⟩ := pr_ok Zk (k := k) (by omega)
      have hAk := hAle k
      show fX12_tellLeast_b81 5000 r48 r54 (fX12_tellLeast_h81 5000 r48 r54 f) x1 (nI g) (nI had) (nI (A k)) (nI k) S = _
      unfold fX12_tellLeast_b81
      rw [m0, if_neg (nI_ge (by omega) (by omega))]
      unfold fX12_tellLeast_b92
      rw [bnd_t (m_mayHave Zk M K hg (by omega) (by omega))]
      cases hm : mayN Z qs g had k with
      | false =>
        show fX12_tellLeast_b118 5000 r48 r54 (fX12_tellLeast_h81 5000 r48 r54 f) x1 (nI g) (nI had) (nI (A k)) (nI k) S = fX12_tellLeast_h81 5000 r48 r54 f x1 (nI g) (nI had) (nI (A k)) (nI (k + 1)) S
        unfold fX12_tellLeast_b118
        rw [nI_1 k]
      | true =>
        rw [if_pos rfl]
        show fX12_tellLeast_b103 5000 r48 r54 (fX12_tellLeast_h81 5000 r48 r54 f) x1 (nI g) (nI had) (nI (A k)) (nI k) S = _
        unfold fX12_tellLeast_b103
        rw [bnd_t (m_with Zk M hg (by omega) hh T)]
        unfold fX12_tellLeast_b118
        rw [nI_1 k]
        dsimp only
        by_cases hv : prN Z k + LN Z qs (tn1 Z - (g + 1)) (had ||| 2 ^ k) < A k
        · rw [if_pos hv, if_pos (nI_lt (by omega) (by omega))]
        · rw [if_neg hv, if_neg (nI_nlt (by omega) (by omega))]
  have e0 : 1000 + LN Z qs (tn1 Z - (g + 1)) had = A 0 := by rw [hA]; rfl
  unfold fX12_tellLeast_b59
  rw [nI_1 g, shl8 (g + 1) (by omega), nI_add, chk_t (inb_t (by omega) (by decide)), nI_clamp (by omega), T (g + 1) (Nat.le_refl _) (by omega) _ hh, show (1000 : Int32) = nI 1000 from rfl, nI_add, e0]
  refine (main (tn0 Z) 0 5000 (by omega) (by omega)).trans ?_
  unfold fX12_tellLeast_b124
  dsimp only [lt]
  rw [shl8 g (by omega), nI_add, chk_t (inb_t (by omega) (by decide)), nI_clamp (by omega), nI_1 had, LN_s hg, ← hA]
theorem m_tell54 {r48 : Int32 → Int32 → gS → Option (Int32 × gS)} (Zk : tOK Z) (M : mSit Z S h d e qs) (K : qsOK Z e qs) (hg : g < tn1 Z) (T : RT Z qs (g + 1) S) : ∃ S', oSame m47 S S' ∧ RT Z qs g S' ∧ fX12_tellLeast_h54 5000 r48 5000 (nI (2 ^ tn0 Z)) (nI g) 0 S = r48 (nI (2 ^ tn0 Z)) (dI g) S' := by
  have z6 := Zk.2.1.2
  have z8 := Zk.1.2
  have p256 := pow256 z8
  have main : ∀ (m k f : Nat) (S1 : gS), k + m = 2 ^ tn0 Z → m < f → oSame m47 S S1 → RT Z qs (g + 1) S1 → (∀ had, had < k → S1 47 (256 * g + had) = nI (LN Z qs (tn1 Z - g) had)) → ∃ S', oSame m47 S S' ∧ RT Z qs g S' ∧ fX12_tellLeast_h54 5000 r48 f (nI (2 ^ tn0 Z)) (nI g) (nI k) S1 = r48 (nI (2 ^ tn0 Z)) (dI g) S' := by
    intro m
    induction m with
    | zero =>
      intro k f S1 hk hf s T1 T2
      obtain ⟨f, rfl⟩ : ∃ f', f = f' + 1 := ⟨f - 1, by omega⟩
      refine ⟨S1, s, fun g' h1 h2 had h3 => ?_, ?_⟩
      · by_cases q : g' = g
        · subst q
          exact T2 had (by omega)
        · exact T1 g' (by omega) h2 had h3
      · show fX12_tellLeast_b54 5000 r48 _ (nI (2 ^ tn0 Z)) (nI g) (nI k) S1 = _
        unfold fX12_tellLeast_b54
        rw [if_pos (nI_le (by omega) (by omega))]
        rfl
    | succ m ih =>
      intro k f S1 hk hf s T1 T2
      obtain ⟨f, rfl⟩ : ∃ f', f = f' + 1 := ⟨f - 1, by omega⟩
      have hF : fX12_tellLeast_h54 5000 r48 (f + 1) (nI (2 ^ tn0 Z)) (nI g) (nI k) S1 = fX12_tellLeast_h54 5000 r48 f (nI (2 ^ tn0 Z)) (nI g) (nI (k + 1)) (sU S1 47 (256 * g + k) (nI (LN Z qs (tn1 Z - g) k))) := by
        show fX12_tellLeast_b54 5000 r48 (fX12_tellLeast_h54 5000 r48 f) (nI (2 ^ tn0 Z)) (nI g) (nI k) S1 = _
        unfold fX12_tellLeast_b54
        rw [if_neg (nI_ge (by omega) (by omega))]
        exact m_tell81 Zk (M.on (m47.same s)) K hg (by omega) T1
      rw [hF]
      refine ih (k + 1) f _ (by omega) (by omega) (s.up rfl) (fun g' h1 h2 had h3 => ?_) (fun had h1 => ?_)
      · rw [sU_ap, if_neg (by omega)]
        exact T1 g' h1 h2 had h3
      · rw [sU_ap]
        by_cases q : had = k
        · rw [if_pos ⟨rfl, by omega⟩, q]
        · rw [if_neg (by omega)]
          exact T2 had (by omega)
  exact main (2 ^ tn0 Z) 0 5000 S (by omega) (by omega) oSame.rf T (fun _ q => absurd q (by omega))
theorem m_tellLeast (Zk : tOK Z) (M : mSit Z S h d e qs) (K : qsOK Z e qs) : ∃ S', fX12_tellLeast 5000 S = some (0, S') ∧ oSame m47 S S' ∧ RT Z qs 0 S' := by
  have z6 := Zk.2.1.2
  have z8 := Zk.1.2
  have p256 := pow256 z8
  have fill : ∀ (m k f : Nat) (S1 : gS), k + m = 2 ^ tn0 Z → m < f → oSame m47 S S1 → (∀ had, had < k → S1 47 (256 * tn1 Z + had) = 0) → ∃ S', oSame m47 S S' ∧ RT Z qs (tn1 Z) S' ∧ fX12_tellLeast_h11 5000 f (nI (2 ^ tn0 Z)) (nI k) S1 = fX12_tellLeast_h48 5000 5000 (nI (2 ^ tn0 Z)) (dI (tn1 Z)) S' := by
    intro m
    induction m with
    | zero =>
      intro k f S1 hk hf s T2
      obtain ⟨f, rfl⟩ : ∃ f', f = f' + 1 := ⟨f - 1, by omega⟩
      have m1 : S1 5 1 = nI (tn1 Z) := (M.on (m47.same s)).1.2.1
      refine ⟨S1, s, fun g' h1 h2 had h3 => ?_, ?_⟩
      · obtain rfl : g' = tn1 Z := by omega
        rw [Nat.sub_self]
        exact T2 had (by omega)
      · show fX12_tellLeast_b11 5000 _ (nI (2 ^ tn0 Z)) (nI k) S1 = _
        unfold fX12_tellLeast_b11
        rw [if_pos (nI_le (by omega) (by omega))]
        unfold fX12_tellLeast_b39
        rw [m1, dI_sub]
    | succ m ih =>
      intro k f S1 hk hf s T2
      obtain ⟨f, rfl⟩ : ∃ f', f = f' + 1 := ⟨f - 1, by omega⟩
      have m1 : S1 5 1 = nI (tn1 Z) := (M.on (m47.same s)).1.2.1
      have hF : fX12_tellLeast_h11 5000 (f + 1) (nI (2 ^ tn0 Z)) (nI k) S1 = fX12_tellLeast_h11 5000 f (nI (2 ^ tn0 Z)) (nI (k + 1)) (sU S1 47 (256 * tn1 Z + k) 0) := by
        show fX12_tellLeast_b11 5000 (fX12_tellLeast_h11 5000 f) (nI (2 ^ tn0 Z)) (nI k) S1 = _
        unfold fX12_tellLeast_b11
        rw [if_neg (nI_ge (by omega) (by omega))]
        unfold fX12_tellLeast_b16
        dsimp only [lt]
        rw [m1, shl8 _ (by omega), nI_add, chk_t (inb_t (by omega) (by decide)), nI_clamp (by omega), nI_1 k]
      rw [hF]
      refine ih (k + 1) f _ (by omega) (by omega) (s.up rfl) (fun had h1 => ?_)
      rw [sU_ap]
      by_cases q : had = k
      · rw [if_pos ⟨rfl, by omega⟩]
      · rw [if_neg (by omega)]
        exact T2 had (by omega)
  have down : ∀ (m : Nat) (S1 : gS) (f : Nat), m ≤ tn1 Z → m < f → oSame m47 S S1 → RT Z qs m S1 → ∃ S', fX12_tellLeast_h48 5000 f (nI (2 ^ tn0 Z)) (dI m) S1 = some (0, S') ∧ oSame m47 S S' ∧ RT Z qs 0 S' := by
    intro m
    induction m with
    | zero =>
      intro S1 f hm hf s T
      obtain ⟨f, rfl⟩ : ∃ f', f = f' + 1 := ⟨f - 1, by omega⟩
      refine ⟨S1, ?_, s, T⟩
      show fX12_tellLeast_b48 5000 _ (nI (2 ^ tn0 Z)) (dI 0) S1 = _
      unfold fX12_tellLeast_b48
      rw [dI_0, if_pos (by decide)]
      rfl
    | succ m ih =>
      intro S1 f hm hf s T
      obtain ⟨f, rfl⟩ : ∃ f', f = f' + 1 := ⟨f - 1, by omega⟩
      obtain ⟨S2, s2, T2, e2⟩ := m_tell54 (r48 := fX12_tellLeast_h48 5000 f) Zk (M.on (m47.same s)) K (g := m) (by omega) T
      obtain ⟨S', a1, a2, a3⟩ := ih S2 f (by omega) (by omega) (s.tr s2) T2
      refine ⟨S', ?_, a2, a3⟩
      show fX12_tellLeast_b48 5000 (fX12_tellLeast_h48 5000 f) (nI (2 ^ tn0 Z)) (dI (m + 1)) S1 = _
      unfold fX12_tellLeast_b48
      rw [dI_s, if_neg (nI_pos (by omega))]
      exact e2.trans a1
  obtain ⟨S2, a1, a2, a3⟩ := fill (2 ^ tn0 Z) 0 5000 S (by omega) (by omega) oSame.rf (fun _ q => absurd q (by omega))
  obtain ⟨S', b1, b2, b3⟩ := down (tn1 Z) S2 5000 (Nat.le_refl _) (by omega) a1 a2
  refine ⟨S', ?_, b2, b3⟩
  unfold fX12_tellLeast fX12_tellLeast_b0
  rw [show S 5 0 = nI (tn0 Z) from M.1.1, shl_pow _ (by omega)]
  exact a3.trans b1
end
end

/-! part 73.shared -/
section
section
variable {N g had k : Nat} {Z S0 S : gS} {d : Int32} {h : Nat} {e : Nat → Int32} {qs : Nat → qT}
theorem m_has48 {r30 : Int32 → Int32 → Int32 → Int32 → gS → Option (Int32 × gS)} {x1 : Int32} (Zk : tOK Z) (M : mSit Z S h d e qs) (K : qsOK Z e qs) (hg : g < tn1 Z) (hh : had < 2 ^ tn0 Z) (T : RT Z qs 0 S) : fX12_has_b36 5000 r30 x1 (nI had) (nI g) S = fX12_has_b98 5000 r30 x1 (nI had) (owV (okO Z qs g had) (tn0 Z)) (nI g) S := by
  have z6 := Zk.2.1.2
  have z8 := Zk.1.2
  have p256 := pow256 z8
  have m0 : S 5 0 = nI (tn0 Z) := M.1.1
  have T1 : RT Z qs (g + 1) S := fun g' h1 => T g' (by omega)
  have main : ∀ (m f : Nat) (v : Int32), m ≤ tn0 Z → m < f → ((∃ k, m ≤ k ∧ k < tn0 Z ∧ okO Z qs g had k = true ∧ (∀ i, m ≤ i → i < k → okO Z qs g had i = false) ∧ v = nI k) ∨ ((∀ i, m ≤ i → i < tn0 Z → okO Z qs g had i = false) ∧ v = -1)) → fX12_has_h48 5000 r30 f x1 (nI had) v (nI g) (dI m) S = fX12_has_b98 5000 r30 x1 (nI had) (owV (okO Z qs g had) (tn0 Z)) (nI g) S := by
    intro m
    induction m with
    | zero =>
      intro f v hm hf I
      obtain ⟨f, rfl⟩ : ∃ f', f = f' + 1 := ⟨f - 1, by omega⟩
      have hv : v = owV (okO Z qs g had) (tn0 Z) := by
        refine owV_an ?_
        rcases I with ⟨k, a1, a2, a3, a4, a5⟩ | ⟨a1, a2⟩
        · exact Or.inl ⟨k, a2, a3, fun i => a4 i (Nat.zero_le _), a5⟩
        · exact Or.inr ⟨fun i => a1 i (Nat.zero_le _), a2⟩
      show fX12_has_b48 5000 r30 _ x1 (nI had) v (nI g) (dI 0) S = _
      unfold fX12_has_b48
      rw [dI_0, if_pos (by decide), hv]
    | succ m ih =>
      intro f v hm hf I
      obtain ⟨f, rfl⟩ : ∃ f', f = f' + 1 := ⟨f - 1, by omega⟩
      have hl := LN_le (Z := Z) (qs := qs) (tn1 Z - (g + 1)) (had ||| 2 ^ m)
      have hl2 := LN_le (Z := Z) (qs := qs) (tn1 Z - g) had
      obtain ⟨p1, p2⟩ := pr_ok Zk (k := m) (by omega)
      have hF : fX12_has_h48 5000 r30 (f + 1) x1 (nI had) v (nI g) (dI (m + 1)) S = if iv (mayN Z qs g had m) = 0 then fX12_has_h48 5000 r30 f x1 (nI had) v (nI g) (dI m) S else fX12_has_b65 5000 r30 (fX12_has_h48 5000 r30 f) x1 (nI had) v (nI g) (nI m) S := by
        show fX12_has_b48 5000 r30 (fX12_has_h48 5000 r30 f) x1 (nI had) v (nI g) (dI (m + 1)) S = _
        unfold fX12_has_b48
        rw [dI_s, if_neg (nI_pos (by omega))]
        unfold fX12_has_b53
        rw [bnd_t (m_mayHave Zk M K hg (by omega) (by omega))]
        rfl
      have no : okO Z qs g had m = false → ((∃ k, m ≤ k ∧ k < tn0 Z ∧ okO Z qs g had k = true ∧ (∀ i, m ≤ i → i < k → okO Z qs g had i = false) ∧ v = nI k) ∨ ((∀ i, m ≤ i → i < tn0 Z → okO Z qs g had i = false) ∧ v = -1)) := by
        intro q
        have hx : ∀ i, m ≤ i → (m + 1 ≤ i → okO Z qs g had i = false) → okO Z qs g had i = false := by
          intro i h1 h2
          by_cases e : i = m
          · rw [e]; exact q
          · exact h2 (by omega)
        rcases I with ⟨k, a1, a2, a3, a4, a5⟩ | ⟨a1, a2⟩
        · exact Or.inl ⟨k, by omega, a2, a3, fun i h1 h2 => hx i h1 (fun h3 => a4 i h3 h2), a5⟩
        · exact Or.inr ⟨fun i h1 h2 => hx i h1 (fun h3 => a1 i h3 h2), a2⟩
      cases hm2 : mayN Z qs g had m with
      | false =>
        rw [hF, hm2]
        exact ih f v (by omega) (by omega) (no (by unfold okO; rw [hm2]; rfl))
      | true =>
        have hF2 : fX12_has_h48 5000 r30 (f + 1) x1 (nI had) v (nI g) (dI (m + 1)) S = if nI (prN Z m + LN Z qs (tn1 Z - (g + 1)) (had ||| 2 ^ m)) = nI (LN Z qs (tn1 Z - g) had) then fX12_has_h48 5000 r30 f x1 (nI had) (nI m) (nI g) (dI m) S else fX12_has_h48 5000 r30 f x1 (nI had) v (nI g) (dI m) S := by
          rw [hF, hm2]
          show fX12_has_b65 5000 r30 (fX12_has_h48 5000 r30 f) x1 (nI had) v (nI g) (nI m) S = _
          unfold fX12_has_b65
          rw [bnd_t (m_with Zk M hg (by omega) hh T1), shl8 g (by omega), nI_add, chk_t (inb_t (by omega) (by decide)), nI_clamp (by omega)]
          simp only [T g (Nat.zero_le _) (by omega) had hh]
          rfl
        rw [hF2]
        by_cases hv : prN Z m + LN Z qs (tn1 Z - (g + 1)) (had ||| 2 ^ m) = LN Z qs (tn1 Z - g) had
        · rw [hv, if_pos rfl]
          exact ih f _ (by omega) (by omega) (Or.inl ⟨m, Nat.le_refl _, by omega, by unfold okO; rw [hm2, decide_eq_true hv]; rfl, fun i h1 h2 => absurd h2 (by omega), rfl⟩)
        · rw [if_neg (fun q => hv ((nI_eq (by omega) (by omega)).mp q))]
          exact ih f v (by omega) (by omega) (no (by unfold okO; rw [hm2, decide_eq_false hv]; rfl))
  unfold fX12_has_b36
  rw [m0, dI_sub]
  exact main (tn0 Z) 5000 (-1) (Nat.le_refl _) (by omega) (Or.inr ⟨fun i h1 h2 => absurd h2 (by omega), rfl⟩)
theorem m_has30 (Zk : tOK Z) (M : mSit Z S h d e qs) (K : qsOK Z e qs) (hg : g < tn1 Z) (T : RT Z qs 0 S) : fX12_has_h30 5000 5000 (nI g) 0 (-1) 0 S = some (owV (okO Z qs g (tkN Z qs g)) (tn0 Z), S) := by
  have z6 := Zk.2.1.2
  have z8 := Zk.1.2
  have p256 := pow256 z8
  have main : ∀ (m k f : Nat) (v : Int32), k + m = g + 1 → m < f → (1 ≤ k → v = owV (okO Z qs (k - 1) (tkN Z qs (k - 1))) (tn0 Z)) → fX12_has_h30 5000 f (nI g) (nI (tkN Z qs k)) v (nI k) S = some (owV (okO Z qs g (tkN Z qs g)) (tn0 Z), S) := by
    intro m
    induction m with
    | zero =>
      intro k f v hk hf hv
      obtain ⟨f, rfl⟩ : ∃ f', f = f' + 1 := ⟨f - 1, by omega⟩
      obtain rfl : k = g + 1 := by omega
      show fX12_has_b30 5000 _ (nI g) _ v (nI (g + 1)) S = _
      unfold fX12_has_b30
      rw [if_pos (nI_lt (by omega) (by omega)), hv (by omega)]
      rfl
    | succ m ih =>
      intro k f v hk hf hv
      obtain ⟨f, rfl⟩ : ∃ f', f = f' + 1 := ⟨f - 1, by omega⟩
      obtain ⟨a1, a2, -, -, -⟩ := tk_ok (qs := qs) Zk k (by omega)
      have e1 : tkN Z qs (k + 1) = if owN Z qs k < tn0 Z then tkN Z qs k ||| 2 ^ owN Z qs k else tkN Z qs k := rfl
      have ev : owV (okO Z qs k (tkN Z qs k)) (tn0 Z) = if owN Z qs k < tn0 Z then nI (owN Z qs k) else -1 := rfl
      show fX12_has_b30 5000 (fX12_has_h30 5000 f) (nI g) (nI (tkN Z qs k)) v (nI k) S = _
      unfold fX12_has_b30
      rw [if_neg (nI_nlt (by omega) (by omega)), m_has48 Zk M K (by omega) a1 T, ← ih (k + 1) f (owV (okO Z qs k (tkN Z qs k)) (tn0 Z)) (by omega) (by omega) (fun _ => rfl), e1]
      unfold fX12_has_b98
      by_cases ho : owN Z qs k < tn0 Z
      · rw [if_pos ho] at ev
        rw [ev, if_pos ho, if_neg (nI_nem (by omega)), ← (or_all (tkN Z qs k) (by omega) (owN Z qs k) (by omega)).1]
        unfold fX12_has_b108 fX12_has_b111
        rw [nI_1 k]
      · rw [if_neg ho] at ev
        rw [ev, if_neg ho, if_pos rfl]
        unfold fX12_has_b104 fX12_has_b111
        rw [nI_1 k, Int32.or_zero]
  exact main (g + 1) 0 5000 (-1) (by omega) (by omega) (fun q => absurd q (by omega))
end
theorem st_shared : Lw_shared JJ := by
  intro SX SM x1 hJ
  obtain ⟨S1, Z, h, qs, hS1, c0, hJ1, Zk, h9, C, M, K, w41, x0, x5⟩ := pre hJ
  have z6 := Zk.2.1.2
  have hM0 : fX12_shared 5000 x1 SM = if x1 < 0 then fX12_shared_b14 5000 S1 else fX12_shared_b9 5000 x1 S1 := by
    unfold fX12_shared fX12_shared_b0
    dsimp only [lt]
    rw [← hS1]
  cases h1 : wth x1 0 1 with
  | false =>
    refine stFl 5000 5000 1 hJ one_ne (Or.inr rfl) (nwF h1) ?_
    show fX12_shared 5000 x1 SM = _
    rw [hM0]
    rcases w01F h1 with q | ⟨q1, q2⟩
    · rw [if_pos q, ← hS1]
      rfl
    · rw [if_neg q1, ← hS1]
      unfold fX12_shared_b9
      rw [if_neg q2]
      rfl
  | true =>
  obtain ⟨q1, q2, q3⟩ := w01T h1
  obtain ⟨S2, t1, t2, t3⟩ := m_tellLeast Zk M K
  obtain ⟨⟨v, X2⟩, r1, r2, r3, r4, r5⟩ := x_share Zk K C
  dsimp only at r2 r3 r4
  obtain ⟨-, -, l1, l2, l3⟩ := tk_ok (qs := qs) Zk (tn1 Z) (Nat.le_refl _)
  rw [Nat.sub_self] at l3
  have hL : S2 47 0 = nI (1000 * (tn1 Z - myN Z qs (tn1 Z)) + mcN Z qs (tn1 Z)) := by
    have := t3 0 (Nat.zero_le _) (Nat.zero_le _) 0 (Nat.pow_pos (by decide))
    rw [Nat.sub_zero, l3] at this
    exact this
  obtain ⟨d1, d2⟩ := div_all (tn1 Z - myN Z qs (tn1 Z)) (by omega) (mcN Z qs (tn1 Z)) (by omega)
  have hX : fX11_shared 5000 x1 SX = if x1 = 0 then fX11_shared_b27 5000 X2 else fX11_shared_b37 5000 X2 := by
    refine (nwT h1).trans ?_
    dsimp only [lt]
    rw [bnd_t r1]
  have hM : fX12_shared 5000 x1 SM = if x1 = 0 then fX12_shared_b28 5000 S2 else fX12_shared_b48 5000 S2 := by
    rw [hM0, if_neg q1]
    unfold fX12_shared_b9
    rw [if_pos q2]
    unfold fX12_shared_b20
    rw [bnd_t t1]
  have s0 : mSame (sU SM 99 4 0) S2 := by rw [← hS1]; exact m47.same t2
  have s4 : S2 99 4 = 0 := by rw [t2 99 4 rfl]; exact c0
  have m1 : S2 5 1 = nI (tn1 Z) := (M.on (m47.same t2)).1.2.1
  rcases q3 with rfl | rfl
  · refine stSu 5000 5000 (nI (myN Z qs (tn1 Z))) hJ rfl (Or.inl rfl) ⟨(0, X2 52 2, X2), hX, rfl, r3, xSh.same r2⟩ ⟨(S2 5 1 - S2 47 0 / 1000, S2), hM, ?_, s0, s4⟩
    show S2 5 1 - S2 47 0 / 1000 = _
    rw [m1, hL, d1, pk_sub (by omega)]
    rw [show tn1 Z - (tn1 Z - myN Z qs (tn1 Z)) = myN Z qs (tn1 Z) by omega]
  · refine stSu 5000 5000 (nI (mcN Z qs (tn1 Z))) hJ rfl (Or.inl rfl) ⟨(0, X2 52 3, X2), hX, rfl, r4, xSh.same r2⟩ ⟨(S2 47 0 - S2 47 0 / 1000 * 1000, S2), hM, ?_, s0, s4⟩
    show S2 47 0 - S2 47 0 / 1000 * 1000 = _
    rw [hL, d1, d2]
theorem st_has : Lw_has JJ := by
  intro SX SM x1 hJ
  obtain ⟨S1, Z, h, qs, hS1, c0, hJ1, Zk, h9, C, M, K, w41, x0, x5⟩ := pre hJ
  have z6 := Zk.2.1.2
  have hF : fX12_has 5000 x1 SM = if iv (inb x1 (tn1 Z)) = 0 then fX12_has_b13 5000 S1 else fX12_has_b19 5000 x1 S1 := by
    unfold fX12_has fX12_has_b0
    dsimp only [lt]
    rw [← hS1, bnd_t (m_isGuild M.1.2.1 (by omega))]
  cases h1 : inb x1 (tn1 Z) with
  | false =>
    refine stFl 5000 5000 1 hJ one_ne (Or.inr rfl) (ngF x5 (by omega) h1) ?_
    show fX12_has 5000 x1 SM = _
    rw [hF, h1, ← hS1]
    rfl
  | true =>
  obtain ⟨g, hg, rfl⟩ := inb_of h1 (by omega)
  have hgc : (nI g).toNatClampNeg = g := nI_clamp (by omega)
  obtain ⟨S2, t1, t2, t3⟩ := m_tellLeast Zk M K
  obtain ⟨⟨v, X2⟩, r1, r2, r3, r4, r5⟩ := x_share Zk K C
  dsimp only at r2 r5
  refine stSu 5000 5000 (owV (okO Z qs g (tkN Z qs g)) (tn0 Z)) hJ rfl (Or.inl rfl) ⟨(0, X2 61 g, X2), ?_, rfl, r5 g hg, xSh.same r2⟩ ⟨(owV (okO Z qs g (tkN Z qs g)) (tn0 Z), S2), ?_, rfl, by rw [← hS1]; exact m47.same t2, (t2 99 4 rfl).trans c0⟩
  · show fX11_has 5000 (nI g) SX = _
    refine (ngT x5 (by omega) h1).trans ?_
    dsimp only [lt]
    rw [bnd_t r1, chk_t (inb_t (by omega) (by decide)), hgc]
  · show fX12_has 5000 (nI g) SM = _
    rw [hF, h1]
    show fX12_has_b19 5000 (nI g) S1 = _
    unfold fX12_has_b19
    rw [bnd_t t1]
    exact m_has30 Zk (M.on (m47.same t2)) K hg t3
end
