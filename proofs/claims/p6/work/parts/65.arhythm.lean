/-! what comes round: numbers -/
theorem lc_least {a b : Nat} (ha : 0 < a) (hb : 0 < b) : ∃ t, 1 ≤ t ∧ t ≤ b ∧ a * t % b = 0 ∧ (∀ s, 1 ≤ s → s < t → a * s % b ≠ 0) ∧ a * t = Nat.lcm a b := by
  obtain ⟨t, ⟨t1, t2⟩, t3⟩ := pk_least (fun t => 1 ≤ t ∧ a * t % b = 0) ⟨b, hb, Nat.mul_mod_left a b⟩
  have tb : t ≤ b := Nat.le_of_not_lt (fun q => t3 b q ⟨hb, Nat.mul_mod_left a b⟩)
  refine ⟨t, t1, tb, t2, fun s s1 s2 q => t3 s s2 ⟨s1, q⟩, ?_⟩
  have d1 : Nat.lcm a b ∣ a * t := Nat.lcm_dvd (Nat.dvd_mul_right a t) (Nat.dvd_of_mod_eq_zero t2)
  obtain ⟨s, hs⟩ := Nat.dvd_lcm_left a b
  have lp : 0 < Nat.lcm a b := Nat.lcm_pos ha hb
  have s1 : 1 ≤ s := by
    rcases Nat.eq_zero_or_pos s with q | q
    · rw [q, Nat.mul_zero] at hs; omega
    · exact q
  have s2 : a * s % b = 0 := by
    rw [← hs]
    exact Nat.mod_eq_zero_of_dvd (Nat.dvd_lcm_right a b)
  have ts : t ≤ s := Nat.le_of_not_lt (fun q => t3 s q ⟨s1, s2⟩)
  have h1 : a * t ≤ Nat.lcm a b := by
    rw [hs]
    exact Nat.mul_le_mul_left a ts
  have h2 : Nat.lcm a b ≤ a * t := Nat.le_of_dvd (Nat.mul_pos ha t1) d1
  omega
theorem lcm_27720 {a b : Nat} (ha : a ∣ 27720) (h1 : 1 ≤ b) (h2 : b ≤ 12) : Nat.lcm a b ∣ 27720 := by
  refine Nat.lcm_dvd ha ?_
  rcases (show b = 1 ∨ b = 2 ∨ b = 3 ∨ b = 4 ∨ b = 5 ∨ b = 6 ∨ b = 7 ∨ b = 8 ∨ b = 9 ∨ b = 10 ∨ b = 11 ∨ b = 12 by omega) with rfl | rfl | rfl | rfl | rfl | rfl | rfl | rfl | rfl | rfl | rfl | rfl <;> decide
theorem x_leastCommon {N a b : Nat} {S : gS} (ha : 0 < a) (ha2 : a ∣ 27720) (h1 : 1 ≤ b) (h2 : b ≤ 12) (hN : 20 < N) : fX11_leastCommon N (nI a) (nI b) S = some (nI (Nat.lcm a b), S) := by
  obtain ⟨t, t1, t2, t3, t4, t5⟩ := lc_least (b := b) ha h1
  have hl : a * t ≤ 27720 := by rw [t5]; exact Nat.le_of_dvd (by decide) (lcm_27720 ha2 h1 h2)
  have main : ∀ (m i fuel : Nat), i + m = t → 1 ≤ i → m < fuel → fX11_leastCommon_h4 N fuel (nI a) (nI b) (nI (a * i)) (nI i) S = some (nI (a * t), S) := by
    intro m
    induction m with
    | zero =>
      intro i fuel h3 h4 h5
      obtain ⟨f, rfl⟩ : ∃ f, fuel = f + 1 := ⟨fuel - 1, by omega⟩
      have : i = t := by omega
      subst this
      show fX11_leastCommon_b4 N _ (nI a) (nI b) (nI (a * i)) (nI i) S = _
      unfold fX11_leastCommon_b4
      by_cases hb : b ≤ i
      · rw [if_pos (nI_le hb (by omega))]
        rfl
      · rw [if_neg (nI_ge (by omega) (by omega))]
        unfold fX11_leastCommon_b9
        rw [chk_t (nz_t (by omega) (by omega)), pk_rem (by omega) (by omega) (by omega), t3, if_pos (show nI 0 = 0 from rfl)]
        rfl
    | succ m ih =>
      intro i fuel h3 h4 h5
      obtain ⟨f, rfl⟩ : ∃ f, fuel = f + 1 := ⟨fuel - 1, by omega⟩
      have hai : a * i ≤ a * t := Nat.mul_le_mul_left a (by omega)
      show fX11_leastCommon_b4 N (fX11_leastCommon_h4 N f) (nI a) (nI b) (nI (a * i)) (nI i) S = _
      unfold fX11_leastCommon_b4
      rw [if_neg (nI_ge (by omega) (by omega))]
      unfold fX11_leastCommon_b9
      have hr : a * i % b < b := Nat.mod_lt _ (by omega)
      have hne := t4 i h4 (by omega)
      rw [chk_t (nz_t (by omega) (by omega)), pk_rem (by omega) (by omega) (by omega), if_neg (nI_ne0 (by omega) (by omega))]
      unfold fX11_leastCommon_b15
      rw [nI_1, nI_add, show a * i + a = a * (i + 1) from (Nat.mul_succ a i).symm]
      exact ih (i + 1) f (by omega) (by omega) (by omega)
  have h := main (t - 1) 1 N (by omega) (by omega) (by omega)
  rw [Nat.mul_one, t5] at h
  exact h
noncomputable def dpZ (Z : gS) (k : Nat) : Nat := (Z 1 k).toNatClampNeg
noncomputable def phZ (Z : gS) (k : Nat) : Nat := (Z 2 k).toNatClampNeg
theorem dp_ok {Z : gS} {k : Nat} (Zk : tOK Z) (hk : k < tn0 Z) : Z 1 k = nI (dpZ Z k) ∧ 1 ≤ dpZ Z k ∧ dpZ Z k ≤ 12 ∧ Z 2 k = nI (phZ Z k) ∧ phZ Z k ≤ 11 := by
  obtain ⟨⟨x, x1, x2, x3⟩, ⟨y, y1, y2⟩, -⟩ := Zk.2.2.2.2.1 k hk
  unfold dpZ phZ
  rw [x3, y2, nI_clamp (by omega), nI_clamp (by omega)]
  exact ⟨rfl, x1, x2, rfl, y1⟩
noncomputable def rhN (Z : gS) (so : Int32) : Nat → Nat
  | 0 => 1
  | k + 1 => if bt so (nI k) = true then Nat.lcm (rhN Z so k) (dpZ Z k) else rhN Z so k
theorem rh_ok {Z : gS} {so : Int32} (Zk : tOK Z) : ∀ k, k ≤ tn0 Z → 0 < rhN Z so k ∧ rhN Z so k ∣ 27720 := by
  intro k
  induction k with
  | zero => intro _; exact ⟨Nat.zero_lt_one, Nat.one_dvd _⟩
  | succ k ih =>
    intro hk
    obtain ⟨i1, i2⟩ := ih (by omega)
    obtain ⟨d1, d2, d3, -⟩ := dp_ok Zk (show k < tn0 Z by omega)
    show 0 < (if bt so (nI k) = true then Nat.lcm (rhN Z so k) (dpZ Z k) else rhN Z so k) ∧ (if bt so (nI k) = true then Nat.lcm (rhN Z so k) (dpZ Z k) else rhN Z so k) ∣ 27720
    by_cases hb : bt so (nI k) = true
    · rw [if_pos hb]; exact ⟨Nat.lcm_pos i1 (by omega), lcm_27720 i2 d2 d3⟩
    · rw [if_neg hb]; exact ⟨i1, i2⟩
theorem shl_m : ∀ n, n < 9 → (1 : Int32) <<< (nI n &&& 31) = nI (2 ^ n) := by decide +kernel
theorem x_needGrottoes {N n : Nat} {S : gS} {x : Int32} (h : S (xtw S) 0 = nI n) (hn : n ≤ 8) : fX11_needGrottoes N x S = some (if inb x (2 ^ n) = true then 0 else 2, 0, S) := by
  have hp := pow256 hn
  unfold fX11_needGrottoes fX11_needGrottoes_b0
  rcases pk_ix x (n := 2 ^ n) (by omega) with h1 | h1 | ⟨j, hj, rfl⟩
  · rw [if_pos h1, inb_f1 h1]
    rfl
  · rw [inb_f2 (by omega) h1]
    by_cases h2 : x < 0
    · rw [if_pos h2]
      rfl
    · rw [if_neg h2]
      unfold fX11_needGrottoes_b4
      dsimp only [lt]
      rw [h, shl_m n (by omega), if_neg (Int32.not_lt.mpr h1)]
      rfl
  · rw [inb_t hj (by omega), if_neg (nI_pos (by omega))]
    unfold fX11_needGrottoes_b4
    dsimp only [lt]
    rw [h, shl_m n (by omega), if_pos (nI_lt hj (by omega))]
    rfl
theorem m_isSome {N n : Nat} {S : gS} {x : Int32} (h : S 5 0 = nI n) (hn : n ≤ 8) : fX12_isSome N x S = some (iv (inb x (2 ^ n)), S) := by
  have hp := pow256 hn
  unfold fX12_isSome fX12_isSome_b0
  rw [h, shl_m n (by omega), bnd_t m_isIn0, wth_inb (by omega)]
  exact chk_t zb_iv
theorem st_rhythm : Lw_rhythm JJ := by
  intro SX SM x1 hJ
  obtain ⟨S1, Z, h, qs, hS1, c0, hJ1, Zk, h9, C, M, K, w41, x0, x5⟩ := pre hJ
  have z8 := Zk.1.2
  have hF : fX12_rhythm 50000 x1 SM = if iv (inb x1 (2 ^ tn0 Z)) = 0 then fX12_rhythm_b13 50000 S1 else fX12_rhythm_b19 50000 x1 S1 := by
    unfold fX12_rhythm fX12_rhythm_b0
    dsimp only [lt]
    rw [← hS1, bnd_t (m_isSome M.1.1 z8)]
  cases h1 : inb x1 (2 ^ tn0 Z) with
  | false =>
    refine stFl 50000 50000 2 hJ two_ne (Or.inr rfl) ?_ ?_
    · show fX11_rhythm_b0 50000 x1 SX = _
      unfold fX11_rhythm_b0
      rw [bnx_x (x_needGrottoes x0 z8) (by rw [h1]; exact two_ne), h1]
      rfl
    · show fX12_rhythm 50000 x1 SM = _
      rw [hF, h1, ← hS1]
      rfl
  | true =>
  refine stSu 50000 50000 (nI (rhN Z x1 (tn0 Z))) hJ rfl (Or.inl rfl) ?_ ?_
  · have e : fX11_rhythm 50000 x1 SX = fX11_rhythm_h9 50000 50000 x1 1 0 SX := by
      show fX11_rhythm_b0 50000 x1 SX = _
      unfold fX11_rhythm_b0
      rw [bnx_t (x_needGrottoes x0 z8) (by rw [h1]; rfl)]
    show Gv (fX11_rhythm 50000 x1 SX) _
    rw [e]
    refine loopG (A := Unit) (fun f k _ => fX11_rhythm_h9 50000 f x1 (nI (rhN Z x1 k)) (nI k) SX) (fun _ _ => True) _ (tn0 Z) ?_ ?_ (tn0 Z) 0 () 50000 (by omega) trivial (by omega)
    · rintro f a -
      refine ⟨(0, nI (rhN Z x1 (tn0 Z)), SX), ?_, rfl, rfl, xSame.rf⟩
      show fX11_rhythm_b9 50000 _ x1 _ (nI (tn0 Z)) SX = _
      unfold fX11_rhythm_b9
      dsimp only [lt]
      rw [x0, if_pos (nI_le (Nat.le_refl _) (by omega))]
      rfl
    · rintro f k a hk -
      refine Or.inr ⟨(), trivial, ?_⟩
      obtain ⟨d1, d2, d3, -⟩ := dp_ok Zk hk
      obtain ⟨r1, r2⟩ := rh_ok (so := x1) Zk k (by omega)
      show fX11_rhythm_b9 50000 (fX11_rhythm_h9 50000 f) x1 _ (nI k) SX = fX11_rhythm_h9 50000 f x1 (nI (if bt x1 (nI k) = true then Nat.lcm (rhN Z x1 k) (dpZ Z k) else rhN Z x1 k)) (nI (k + 1)) SX
      unfold fX11_rhythm_b9
      dsimp only [lt]
      rw [x0, if_neg (nI_ge hk (by omega))]
      unfold fX11_rhythm_b20
      rw [bnd_t x_isOneOf]
      cases hb : bt x1 (nI k) with
      | false =>
        show fX11_rhythm_b42 50000 (fX11_rhythm_h9 50000 f) x1 (nI (rhN Z x1 k)) (nI k) SX = fX11_rhythm_h9 50000 f x1 (nI (rhN Z x1 k)) (nI (k + 1)) SX
        unfold fX11_rhythm_b42
        rw [nI_1]
      | true =>
        show fX11_rhythm_b28 50000 (fX11_rhythm_h9 50000 f) x1 (nI (rhN Z x1 k)) (nI k) SX = fX11_rhythm_h9 50000 f x1 (nI (Nat.lcm (rhN Z x1 k) (dpZ Z k))) (nI (k + 1)) SX
        unfold fX11_rhythm_b28
        dsimp only [lt]
        rw [chk_t (inb_t (by omega) (by decide)), nI_clamp (by omega), C.1 1 k (by omega) (by omega), d1, bnd_t (x_leastCommon r1 r2 d2 d3 (by decide))]
        unfold fX11_rhythm_b42
        rw [nI_1]
  · have e : fX12_rhythm 50000 x1 SM = fX12_rhythm_h23 50000 50000 x1 1 0 S1 := by
      rw [hF, h1]
      rfl
    show Gv (fX12_rhythm 50000 x1 SM) _
    rw [e, ← hS1]
    refine loopG (A := Unit) (fun f k _ => fX12_rhythm_h23 50000 f x1 (nI (rhN Z x1 k)) (nI k) S1) (fun _ _ => True) _ (tn0 Z) ?_ ?_ (tn0 Z) 0 () 50000 (by omega) trivial (by omega)
    · rintro f a -
      refine ⟨(nI (rhN Z x1 (tn0 Z)), S1), ?_, rfl, mSame.rf, c0⟩
      show fX12_rhythm_b23 50000 _ x1 _ (nI (tn0 Z)) S1 = _
      unfold fX12_rhythm_b23
      rw [M.1.1, if_pos (nI_le (Nat.le_refl _) (by omega))]
      rfl
    · rintro f k a hk -
      refine Or.inr ⟨(), trivial, ?_⟩
      obtain ⟨d1, d2, d3, -⟩ := dp_ok Zk hk
      obtain ⟨r1, r2⟩ := rh_ok (so := x1) Zk k (by omega)
      show fX12_rhythm_b23 50000 (fX12_rhythm_h23 50000 f) x1 _ (nI k) S1 = fX12_rhythm_h23 50000 f x1 (nI (if bt x1 (nI k) = true then Nat.lcm (rhN Z x1 k) (dpZ Z k) else rhN Z x1 k)) (nI (k + 1)) S1
      unfold fX12_rhythm_b23
      rw [M.1.1, if_neg (nI_ge hk (by omega))]
      unfold fX12_rhythm_b33
      have e7 : S1 7 k = nI (dpZ Z k) := (M.1.2.2.2.2.2.2.2.1 k hk).1.trans d1
      cases hb : bt x1 (nI k) with
      | false =>
        rw [if_neg (by decide)]
        show fX12_rhythm_b36 50000 (fX12_rhythm_h23 50000 f) (fX12_rhythm_h36 50000 (fX12_rhythm_h23 50000 f) 49999) x1 (nI (rhN Z x1 k)) (nI k) (nI (rhN Z x1 k)) S1 = _
        unfold fX12_rhythm_b36
        rw [bnd_t m_isOf, hb]
        show fX12_rhythm_b63 50000 (fX12_rhythm_h23 50000 f) x1 (nI (rhN Z x1 k)) (nI k) S1 = _
        unfold fX12_rhythm_b63
        rw [nI_1]
      | true =>
        rw [if_pos rfl]
        obtain ⟨t, t1, t2, t3, t4, t5⟩ := lc_least (b := dpZ Z k) r1 d2
        have hl : rhN Z x1 k * t ≤ 27720 := by rw [t5]; exact Nat.le_of_dvd (by decide) (lcm_27720 r2 d2 d3)
        rw [← t5]
        suffices L : ∀ (m i fuel : Nat), i + m = t → 1 ≤ i → m < fuel → fX12_rhythm_h36 50000 (fX12_rhythm_h23 50000 f) fuel x1 (nI (rhN Z x1 k * i)) (nI k) (nI (rhN Z x1 k)) S1 = fX12_rhythm_h23 50000 f x1 (nI (rhN Z x1 k * t)) (nI (k + 1)) S1 by
          have h := L (t - 1) 1 50000 (by omega) (by omega) (by omega)
          rw [Nat.mul_one] at h
          exact h
        intro m
        induction m with
        | zero =>
          intro i fuel h3 h4 h5
          obtain ⟨g, rfl⟩ : ∃ g, fuel = g + 1 := ⟨fuel - 1, by omega⟩
          have : i = t := by omega
          subst this
          show fX12_rhythm_b36 50000 (fX12_rhythm_h23 50000 f) (fX12_rhythm_h36 50000 (fX12_rhythm_h23 50000 f) g) x1 _ (nI k) _ S1 = _
          unfold fX12_rhythm_b36
          rw [bnd_t m_isOf, hb]
          show fX12_rhythm_b44 50000 (fX12_rhythm_h23 50000 f) (fX12_rhythm_h36 50000 (fX12_rhythm_h23 50000 f) g) x1 _ (nI k) _ S1 = _
          unfold fX12_rhythm_b44
          rw [chk_t (inb_t (by omega) (by decide)), nI_clamp (by omega), e7, chk_t (nz_t (by omega) (by omega)), pk_rem (by omega) (by omega) (by omega), t3, if_pos (show nI 0 = 0 from rfl)]
          unfold fX12_rhythm_b63
          rw [nI_1]
        | succ m ih =>
          intro i fuel h3 h4 h5
          obtain ⟨g, rfl⟩ : ∃ g, fuel = g + 1 := ⟨fuel - 1, by omega⟩
          have hai : rhN Z x1 k * i ≤ rhN Z x1 k * t := Nat.mul_le_mul_left _ (by omega)
          have hr : rhN Z x1 k * i % dpZ Z k < dpZ Z k := Nat.mod_lt _ (by omega)
          have hne := t4 i h4 (by omega)
          show fX12_rhythm_b36 50000 (fX12_rhythm_h23 50000 f) (fX12_rhythm_h36 50000 (fX12_rhythm_h23 50000 f) g) x1 _ (nI k) _ S1 = _
          unfold fX12_rhythm_b36
          rw [bnd_t m_isOf, hb]
          show fX12_rhythm_b44 50000 (fX12_rhythm_h23 50000 f) (fX12_rhythm_h36 50000 (fX12_rhythm_h23 50000 f) g) x1 _ (nI k) _ S1 = _
          unfold fX12_rhythm_b44
          rw [chk_t (inb_t (by omega) (by decide)), nI_clamp (by omega), e7, chk_t (nz_t (by omega) (by omega)), pk_rem (by omega) (by omega) (by omega), if_neg (nI_ne0 (by omega) (by omega))]
          unfold fX12_rhythm_b55
          rw [nI_add, show rhN Z x1 k * i + rhN Z x1 k = rhN Z x1 k * (i + 1) from (Nat.mul_succ _ i).symm]
          exact ih (i + 1) g (by omega) (by omega) (by omega)
