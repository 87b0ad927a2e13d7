noncomputable def m47 (i _j : Nat) : Bool := i == 47
theorem m47.same {S S' : gS} (s : oSame m47 S S') : mSame S S' := by
  intro i j h
  refine s i j ?_
  unfold m47
  refine beq_false_of_ne (fun q => ?_)
  rw [q] at h
  cases h
theorem div_all : ∀ a, a < 7 → ∀ b, b < 121 → nI (1000 * a + b) / 1000 = nI a ∧ nI (1000 * a + b) - nI a * 1000 = nI b := by decide +kernel
section
variable {N g had k : Nat} {Z S0 S : gS} {d : Int32} {h : Nat} {e : Nat → Int32} {qs : Nat → qT}
def RT (Z : gS) (qs : Nat → qT) (g0 : Nat) (S : gS) : Prop := ∀ g, g0 ≤ g → g ≤ tn1 Z → ∀ had, had < 2 ^ tn0 Z → S 47 (256 * g + had) = nI (LN Z qs (tn1 Z - g) had)
theorem m_with (Zk : tOK Z) (M : mSit Z S h d e qs) (hg : g < tn1 Z) (hk : k < tn0 Z) (hh : had < 2 ^ tn0 Z) (T : RT Z qs (g + 1) S) : fX12_with N (nI g) (nI had) (nI k) S = some (nI (prN Z k + LN Z qs (tn1 Z - (g + 1)) (had ||| 2 ^ k)), S) := by
  have z6 := Zk.2.1.2
  have z8 := Zk.1.2
  have p256 := pow256 z8
  obtain ⟨p1, p2⟩ := pr_ok Zk hk
  obtain ⟨o1, o2, o3⟩ := or_all had (by omega) k (by omega)
  have hl := or_lt hh hk
  unfold fX12_with fX12_with_b0
  rw [nI_1 g, shl8 (g + 1) (by omega), o1, nI_add, chk_t (inb_t (by omega) (by decide)), chk_t (inb_t (by omega) (by decide)), nI_clamp (n := k) (by omega), nI_clamp (by omega), (M.1.2.2.2.2.2.2.2.1 k hk).2.2.1, p1, T (g + 1) (Nat.le_refl _) (by omega) _ hl, nI_add]
theorem m_tell81 {r48 : Int32 → Int32 → gS → Option (Int32 × gS)} {r54 : Int32 → Int32 → Int32 → gS → Option (Int32 × gS)} {x1 : Int32} (Zk : tOK Z) (M : mSit Z S h d e qs) (K : qsOK Z e qs) (hg : g < tn1 Z) (hh : had < 2 ^ tn0 Z) (T : RT Z qs (g + 1) S) : fX12_tellLeast_b59 5000 r48 r54 x1 (nI g) (nI had) S = r54 x1 (nI g) (nI (had + 1)) (sU S 47 (256 * g + had) (nI (LN Z qs (tn1 Z - g) had))) := by
  have z6 := Zk.2.1.2
  have z8 := Zk.1.2
  have p256 := pow256 z8
  have m0 : S 5 0 = nI (tn0 Z) := M.1.1
  obtain ⟨A, hA⟩ : ∃ z : Nat → Nat, z = mnF (1000 + LN Z qs (tn1 Z - (g + 1)) had) (mayN Z qs g had) (fun k => prN Z k + LN Z qs (tn1 Z - (g + 1)) (had ||| 2 ^ k)) := ⟨_, rfl⟩
  have hl0 := LN_le (Z := Z) (qs := qs) (tn1 Z - (g + 1)) had
  have hAle : ∀ k, A k ≤ 1000 + LN Z qs (tn1 Z - (g + 1)) had := fun k => by rw [hA]; exact mnF_le k
  have main : ∀ (m k f : Nat), k + m = tn0 Z → m < f → fX12_tellLeast_h81 5000 r48 r54 f x1 (nI g) (nI had) (nI (A k)) (nI k) S = fX12_tellLeast_b124 5000 r48 r54 x1 (nI g) (nI had) (nI (A (tn0 Z))) S := by
    intro m
    induction m with
    | zero =>
      intro k f hk hf
      obtain ⟨f, rfl⟩ : ∃ f', f = f' + 1 := ⟨f - 1, by omega⟩
      obtain rfl : k = tn0 Z := by omega
      show fX12_tellLeast_b81 5000 r48 r54 _ x1 (nI g) (nI had) _ (nI (tn0 Z)) S = _
      unfold fX12_tellLeast_b81
      rw [m0, if_pos (nI_le (Nat.le_refl _) (by omega))]
    | succ m ih =>
      intro k f hk hf
      obtain ⟨f, rfl⟩ : ∃ f', f = f' + 1 := ⟨f - 1, by omega⟩
      have eA : A (k + 1) = if mayN Z qs g had k = true then (if prN Z k + LN Z qs (tn1 Z - (g + 1)) (had ||| 2 ^ k) < A k then prN Z k + LN Z qs (tn1 Z - (g + 1)) (had ||| 2 ^ k) else A k) else A k := by
        rw [hA]
        rfl
      rw [← ih (k + 1) f (by omega) (by omega), eA]
      have hl := LN_le (Z := Z) (qs := qs) (tn1 Z - (g + 1)) (had ||| 2 ^ k)
      obtain ⟨p1, p2⟩ := pr_ok Zk (k := k) (by omega)
      have hAk := hAle k
      show fX12_tellLeast_b81 5000 r48 r54 (fX12_tellLeast_h81 5000 r48 r54 f) x1 (nI g) (nI had) (nI (A k)) (nI k) S = _
      unfold fX12_tellLeast_b81
      rw [m0, if_neg (nI_ge (by omega) (by omega))]
      unfold fX12_tellLeast_b92
      rw [bnd_t (m_mayHave Zk M K hg (by omega) (by omega))]
      cases hm : mayN Z qs g had k with
      | false =>
        show fX12_tellLeast_b118 5000 r48 r54 (fX12_tellLeast_h81 5000 r48 r54 f) x1 (nI g) (nI had) (nI (A k)) (nI k) S = fX12_tellLeast_h81 5000 r48 r54 f x1 (nI g) (nI had) (nI (A k)) (nI (k + 1)) S
        unfold fX12_tellLeast_b118
        rw [nI_1 k]
      | true =>
        rw [if_pos rfl]
        show fX12_tellLeast_b103 5000 r48 r54 (fX12_tellLeast_h81 5000 r48 r54 f) x1 (nI g) (nI had) (nI (A k)) (nI k) S = _
        unfold fX12_tellLeast_b103
        rw [bnd_t (m_with Zk M hg (by omega) hh T)]
        unfold fX12_tellLeast_b118
        rw [nI_1 k]
        dsimp only
        by_cases hv : prN Z k + LN Z qs (tn1 Z - (g + 1)) (had ||| 2 ^ k) < A k
        · rw [if_pos hv, if_pos (nI_lt (by omega) (by omega))]
        · rw [if_neg hv, if_neg (nI_nlt (by omega) (by omega))]
  have e0 : 1000 + LN Z qs (tn1 Z - (g + 1)) had = A 0 := by rw [hA]; rfl
  unfold fX12_tellLeast_b59
  rw [nI_1 g, shl8 (g + 1) (by omega), nI_add, chk_t (inb_t (by omega) (by decide)), nI_clamp (by omega), T (g + 1) (Nat.le_refl _) (by omega) _ hh, show (1000 : Int32) = nI 1000 from rfl, nI_add, e0]
  refine (main (tn0 Z) 0 5000 (by omega) (by omega)).trans ?_
  unfold fX12_tellLeast_b124
  dsimp only [lt]
  rw [shl8 g (by omega), nI_add, chk_t (inb_t (by omega) (by decide)), nI_clamp (by omega), nI_1 had, LN_s hg, ← hA]
theorem m_tell54 {r48 : Int32 → Int32 → gS → Option (Int32 × gS)} (Zk : tOK Z) (M : mSit Z S h d e qs) (K : qsOK Z e qs) (hg : g < tn1 Z) (T : RT Z qs (g + 1) S) : ∃ S', oSame m47 S S' ∧ RT Z qs g S' ∧ fX12_tellLeast_h54 5000 r48 5000 (nI (2 ^ tn0 Z)) (nI g) 0 S = r48 (nI (2 ^ tn0 Z)) (dI g) S' := by
  have z6 := Zk.2.1.2
  have z8 := Zk.1.2
  have p256 := pow256 z8
  have main : ∀ (m k f : Nat) (S1 : gS), k + m = 2 ^ tn0 Z → m < f → oSame m47 S S1 → RT Z qs (g + 1) S1 → (∀ had, had < k → S1 47 (256 * g + had) = nI (LN Z qs (tn1 Z - g) had)) → ∃ S', oSame m47 S S' ∧ RT Z qs g S' ∧ fX12_tellLeast_h54 5000 r48 f (nI (2 ^ tn0 Z)) (nI g) (nI k) S1 = r48 (nI (2 ^ tn0 Z)) (dI g) S' := by
    intro m
    induction m with
    | zero =>
      intro k f S1 hk hf s T1 T2
      obtain ⟨f, rfl⟩ : ∃ f', f = f' + 1 := ⟨f - 1, by omega⟩
      refine ⟨S1, s, fun g' h1 h2 had h3 => ?_, ?_⟩
      · by_cases q : g' = g
        · subst q
          exact T2 had (by omega)
        · exact T1 g' (by omega) h2 had h3
      · show fX12_tellLeast_b54 5000 r48 _ (nI (2 ^ tn0 Z)) (nI g) (nI k) S1 = _
        unfold fX12_tellLeast_b54
        rw [if_pos (nI_le (by omega) (by omega))]
        rfl
    | succ m ih =>
      intro k f S1 hk hf s T1 T2
      obtain ⟨f, rfl⟩ : ∃ f', f = f' + 1 := ⟨f - 1, by omega⟩
      have hF : fX12_tellLeast_h54 5000 r48 (f + 1) (nI (2 ^ tn0 Z)) (nI g) (nI k) S1 = fX12_tellLeast_h54 5000 r48 f (nI (2 ^ tn0 Z)) (nI g) (nI (k + 1)) (sU S1 47 (256 * g + k) (nI (LN Z qs (tn1 Z - g) k))) := by
        show fX12_tellLeast_b54 5000 r48 (fX12_tellLeast_h54 5000 r48 f) (nI (2 ^ tn0 Z)) (nI g) (nI k) S1 = _
        unfold fX12_tellLeast_b54
        rw [if_neg (nI_ge (by omega) (by omega))]
        exact m_tell81 Zk (M.on (m47.same s)) K hg (by omega) T1
      rw [hF]
      refine ih (k + 1) f _ (by omega) (by omega) (s.up rfl) (fun g' h1 h2 had h3 => ?_) (fun had h1 => ?_)
      · rw [sU_ap, if_neg (by omega)]
        exact T1 g' h1 h2 had h3
      · rw [sU_ap]
        by_cases q : had = k
        · rw [if_pos ⟨rfl, by omega⟩, q]
        · rw [if_neg (by omega)]
          exact T2 had (by omega)
  exact main (2 ^ tn0 Z) 0 5000 S (by omega) (by omega) oSame.rf T (fun _ q => absurd q (by omega))
theorem m_tellLeast (Zk : tOK Z) (M : mSit Z S h d e qs) (K : qsOK Z e qs) : ∃ S', fX12_tellLeast 5000 S = some (0, S') ∧ oSame m47 S S' ∧ RT Z qs 0 S' := by
  have z6 := Zk.2.1.2
  have z8 := Zk.1.2
  have p256 := pow256 z8
  have fill : ∀ (m k f : Nat) (S1 : gS), k + m = 2 ^ tn0 Z → m < f → oSame m47 S S1 → (∀ had, had < k → S1 47 (256 * tn1 Z + had) = 0) → ∃ S', oSame m47 S S' ∧ RT Z qs (tn1 Z) S' ∧ fX12_tellLeast_h11 5000 f (nI (2 ^ tn0 Z)) (nI k) S1 = fX12_tellLeast_h48 5000 5000 (nI (2 ^ tn0 Z)) (dI (tn1 Z)) S' := by
    intro m
    induction m with
    | zero =>
      intro k f S1 hk hf s T2
      obtain ⟨f, rfl⟩ : ∃ f', f = f' + 1 := ⟨f - 1, by omega⟩
      have m1 : S1 5 1 = nI (tn1 Z) := (M.on (m47.same s)).1.2.1
      refine ⟨S1, s, fun g' h1 h2 had h3 => ?_, ?_⟩
      · obtain rfl : g' = tn1 Z := by omega
        rw [Nat.sub_self]
        exact T2 had (by omega)
      · show fX12_tellLeast_b11 5000 _ (nI (2 ^ tn0 Z)) (nI k) S1 = _
        unfold fX12_tellLeast_b11
        rw [if_pos (nI_le (by omega) (by omega))]
        unfold fX12_tellLeast_b39
        rw [m1, dI_sub]
    | succ m ih =>
      intro k f S1 hk hf s T2
      obtain ⟨f, rfl⟩ : ∃ f', f = f' + 1 := ⟨f - 1, by omega⟩
      have m1 : S1 5 1 = nI (tn1 Z) := (M.on (m47.same s)).1.2.1
      have hF : fX12_tellLeast_h11 5000 (f + 1) (nI (2 ^ tn0 Z)) (nI k) S1 = fX12_tellLeast_h11 5000 f (nI (2 ^ tn0 Z)) (nI (k + 1)) (sU S1 47 (256 * tn1 Z + k) 0) := by
        show fX12_tellLeast_b11 5000 (fX12_tellLeast_h11 5000 f) (nI (2 ^ tn0 Z)) (nI k) S1 = _
        unfold fX12_tellLeast_b11
        rw [if_neg (nI_ge (by omega) (by omega))]
        unfold fX12_tellLeast_b16
        dsimp only [lt]
        rw [m1, shl8 _ (by omega), nI_add, chk_t (inb_t (by omega) (by decide)), nI_clamp (by omega), nI_1 k]
      rw [hF]
      refine ih (k + 1) f _ (by omega) (by omega) (s.up rfl) (fun had h1 => ?_)
      rw [sU_ap]
      by_cases q : had = k
      · rw [if_pos ⟨rfl, by omega⟩]
      · rw [if_neg (by omega)]
        exact T2 had (by omega)
  have down : ∀ (m : Nat) (S1 : gS) (f : Nat), m ≤ tn1 Z → m < f → oSame m47 S S1 → RT Z qs m S1 → ∃ S', fX12_tellLeast_h48 5000 f (nI (2 ^ tn0 Z)) (dI m) S1 = some (0, S') ∧ oSame m47 S S' ∧ RT Z qs 0 S' := by
    intro m
    induction m with
    | zero =>
      intro S1 f hm hf s T
      obtain ⟨f, rfl⟩ : ∃ f', f = f' + 1 := ⟨f - 1, by omega⟩
      refine ⟨S1, ?_, s, T⟩
      show fX12_tellLeast_b48 5000 _ (nI (2 ^ tn0 Z)) (dI 0) S1 = _
      unfold fX12_tellLeast_b48
      rw [dI_0, if_pos (by decide)]
      rfl
    | succ m ih =>
      intro S1 f hm hf s T
      obtain ⟨f, rfl⟩ : ∃ f', f = f' + 1 := ⟨f - 1, by omega⟩
      obtain ⟨S2, s2, T2, e2⟩ := m_tell54 (r48 := fX12_tellLeast_h48 5000 f) Zk (M.on (m47.same s)) K (g := m) (by omega) T
      obtain ⟨S', a1, a2, a3⟩ := ih S2 f (by omega) (by omega) (s.tr s2) T2
      refine ⟨S', ?_, a2, a3⟩
      show fX12_tellLeast_b48 5000 (fX12_tellLeast_h48 5000 f) (nI (2 ^ tn0 Z)) (dI (m + 1)) S1 = _
      unfold fX12_tellLeast_b48
      rw [dI_s, if_neg (nI_pos (by omega))]
      exact e2.trans a1
  obtain ⟨S2, a1, a2, a3⟩ := fill (2 ^ tn0 Z) 0 5000 S (by omega) (by omega) oSame.rf (fun _ q => absurd q (by omega))
  obtain ⟨S', b1, b2, b3⟩ := down (tn1 Z) S2 5000 (Nat.le_refl _) (by omega) a1 a2
  refine ⟨S', ?_, b2, b3⟩
  unfold fX12_tellLeast fX12_tellLeast_b0
  rw [show S 5 0 = nI (tn0 Z) from M.1.1, shl_pow _ (by omega)]
  exact a3.trans b1
end
