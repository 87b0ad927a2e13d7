/-! often, grotto -/
noncomputable def ofR (c : Nat → Bool) : Nat → Nat → Int32 → Int32
  | 0, _, acc => acc
  | m + 1, k, acc => ofR c m (k + 1) (acc + iv (c k))
theorem x_often_h {n0 w h n k0 : Nat} {SX SM : gS} (D : jDr n0 w h SX SM) (hk : k0 < n0) (hn : n ≤ 60) : ∀ (m k : Nat) (acc : Int32) (fuel : Nat), k + m = n → m < fuel → fX11_often_h17 1000 fuel (nI k0) (nI n) acc (nI (k + 1)) SX = some (0, ofR (fun i => bt (bX n0 w SX (h + i)) (nI k0)) m k acc, SX) := by
  intro m
  induction m with
  | zero =>
    intro k acc fuel h1 h2
    obtain ⟨f, rfl⟩ : ∃ f, fuel = f + 1 := ⟨fuel - 1, by omega⟩
    show fX11_often_b17 1000 _ (nI k0) (nI n) acc (nI (k + 1)) SX = _
    unfold fX11_often_b17
    rw [if_pos (nI_lt (by omega) (by omega))]
    rfl
  | succ m ih =>
    intro k acc fuel h1 h2
    obtain ⟨f, rfl⟩ : ∃ f, fuel = f + 1 := ⟨fuel - 1, by omega⟩
    show fX11_often_b17 1000 (fX11_often_h17 1000 f) (nI k0) (nI n) acc (nI (k + 1)) SX = _
    unfold fX11_often_b17
    rw [if_neg (nI_nlt (by omega) (by omega))]
    unfold fX11_often_b23
    rw [bnd_t (x_ahead D hk (by omega) (by omega))]
    show (if iv (bt (bX n0 w SX (h + k)) (nI k0)) = 0 then _ else _) = some (0, ofR (fun i => bt (bX n0 w SX (h + i)) (nI k0)) m (k + 1) (acc + iv (bt (bX n0 w SX (h + k)) (nI k0))), SX)
    cases hb : bt (bX n0 w SX (h + k)) (nI k0) with
    | false =>
      show fX11_often_b36 1000 (fX11_often_h17 1000 f) (nI k0) (nI n) acc (nI (k + 1)) SX = _
      unfold fX11_often_b36
      rw [nI_1, show acc + iv false = acc from Int32.add_zero acc]
      exact ih (k + 1) _ f (by omega) (by omega)
    | true =>
      show fX11_often_b33 1000 (fX11_often_h17 1000 f) (nI k0) (nI n) acc (nI (k + 1)) SX = _
      unfold fX11_often_b33 fX11_often_b36
      rw [nI_1 (k + 1)]
      exact ih (k + 1) _ f (by omega) (by omega)
theorem m_often_h {n0 w h n k0 : Nat} {SX S1 S2 : gS} (D : jDr n0 w h SX S2) (hn : n ≤ 60) (E : ∀ S, oSame mHr S2 S → ∃ S4, fX12_unpack 1000 46 0 S = some (0, S4) ∧ mSame S1 S4 ∧ S4 99 4 = 0) : ∀ (m k : Nat) (acc : Int32) (fuel : Nat) (S : gS), k + m = n → m < fuel → oSame mHr S2 S → S 99 37 = nI (h + k) →
    ∃ S4, fX12_often_h51 1000 fuel (nI k0) (nI n) acc (nI k) S = some (ofR (fun i => bt (bX n0 w SX (h + i)) (nI k0)) m k acc, S4) ∧ mSame S1 S4 ∧ S4 99 4 = 0 := by
  have h9 := D.2.2.2.2.2.1.1
  intro m
  induction m with
  | zero =>
    intro k acc fuel S h1 h2 s hh
    obtain ⟨f, rfl⟩ : ∃ f, fuel = f + 1 := ⟨fuel - 1, by omega⟩
    obtain ⟨S4, u1, u2, u3⟩ := E S s
    refine ⟨S4, ?_, u2, u3⟩
    show fX12_often_b51 1000 _ (nI k0) (nI n) acc (nI k) S = _
    unfold fX12_often_b51
    rw [if_pos (nI_le (by omega) (by omega))]
    unfold fX12_often_b84
    rw [bnd_t u1]
    rfl
  | succ m ih =>
    intro k acc fuel S h1 h2 s hh
    obtain ⟨f, rfl⟩ : ∃ f, fuel = f + 1 := ⟨fuel - 1, by omega⟩
    obtain ⟨S4, u1, u2, u3⟩ := ih (k + 1) (acc + iv (bt (bX n0 w SX (h + k)) (nI k0))) f (sU S 99 37 (nI (h + k) + 1)) (by omega) (by omega) (s.up rfl) (by rw [sU_s, nI_1]; rfl)
    refine ⟨S4, ?_, u2, u3⟩
    show fX12_often_b51 1000 (fX12_often_h51 1000 f) (nI k0) (nI n) acc (nI k) S = some (ofR (fun i => bt (bX n0 w SX (h + i)) (nI k0)) m (k + 1) _, S4)
    unfold fX12_often_b51
    rw [if_neg (nI_ge (by omega) (by omega))]
    unfold fX12_often_b57
    rw [bnd_t (m_dripAt D s hh (by omega) (by decide))]
    dsimp only [lt]
    rw [hh, shr1_iv, nI_1 k]
    exact u1
theorem st_often : Lw_often JJ := by
  intro SX SM x1 x2 hJ
  have hJ1 := hJ.same xSame.rf (code_same SM 0)
  have c0 := code_at SM 0
  obtain ⟨S1, hS1⟩ : ∃ z, z = sU SM 99 4 0 := ⟨_, rfl⟩
  rw [← hS1] at hJ1 c0
  obtain ⟨n0, n1, w, h, hT, hN, D⟩ := hJ1.dr
  obtain ⟨a1, a2, a3⟩ := D.1
  have hF : ∀ M, fX12_often M x1 x2 SM = if iv (inb x1 n0) = 0 then fX12_often_b13 M S1 else fX12_often_b19 M x1 x2 S1 := by
    intro M
    unfold fX12_often fX12_often_b0
    dsimp only [lt]
    rw [← hS1, bnd_t (m_isGrotto a2 (by omega))]
  have hG : ∀ M, fX12_often_b19 M x1 x2 S1 = if iv (wth x2 0 60) = 0 then fX12_often_b31 M S1 else fX12_often_b37 M x1 x2 S1 := by
    intro M
    unfold fX12_often_b19
    rw [bnd_t in_0_60]
  cases hk : inb x1 n0 with
  | false =>
    refine stp_no (t := 1) (v := 0) (w := 0) (SX' := SX) (SM' := sU S1 99 4 1) 1000 1000 (hJ1.same xSame.rf (code_same S1 1)) (by decide) (Or.inr (Or.inl rfl)) ?_ ?_ (code_at S1 1)
    · show fX11_often_b0 1000 x1 x2 SX = _
      unfold fX11_often_b0
      rw [bnx_x (x_needGrotto a1 (by omega)) (by rw [hk]; exact one_ne), hk]
      rfl
    · show fX12_often 1000 x1 x2 SM = _
      rw [hF, hk]
      rfl
  | true =>
    obtain ⟨k0, hk0, rfl⟩ := inb_of hk (by omega)
    cases hx : wth x2 0 60 with
    | false =>
      refine stp_no (t := 2) (v := 0) (w := 0) (SX' := SX) (SM' := sU S1 99 4 2) 1000 1000 (hJ1.same xSame.rf (code_same S1 2)) (by decide) (Or.inr (Or.inr rfl)) ?_ ?_ (code_at S1 2)
      · show fX11_often_b0 1000 (nI k0) x2 SX = _
        unfold fX11_often_b0
        rw [bnx_t (x_needGrotto a1 (by omega)) (by rw [hk]; rfl)]
        dsimp only
        rw [bnx_x x_needWithin (by rw [hx]; exact two_ne), hx]
        rfl
      · show fX12_often 1000 (nI k0) x2 SM = _
        rw [hF, hk]
        show fX12_often_b19 1000 (nI k0) x2 S1 = _
        rw [hG, hx]
        rfl
    | true =>
      obtain ⟨c, c1, c2, rfl⟩ := wth_of (a := 0) (b := 60) (by decide) (by decide) hx
      obtain ⟨S2, p1, D2, E⟩ := q_begin D c0
      obtain ⟨S4, u1, u2, u3⟩ := m_often_h (n := c) (k0 := k0) D2 c2 E c 0 0 1000 S2 (by omega) (by omega) oSame.rf D2.2.2.2.2.2.1.2.2
      refine stp_ok (SX := SX) (SM := SM) (SX' := SX) (SM' := S4) (v := ofR (fun i => bt (bX n0 w SX (h + i)) (nI k0)) c 0 0) 1000 1000 (hJ1.same xSame.rf u2) rfl (Or.inl rfl) ?_ ?_ u3
      · show fX11_often_b0 1000 (nI k0) (nI c) SX = _
        unfold fX11_often_b0
        rw [bnx_t (x_needGrotto a1 (by omega)) (by rw [hk]; rfl)]
        dsimp only
        rw [bnx_t x_needWithin (by rw [hx]; rfl)]
        exact x_often_h D hk0 c2 c 0 0 1000 (by omega) (by omega)
      · show fX12_often 1000 (nI k0) (nI c) SM = _
        rw [hF, hk]
        show fX12_often_b19 1000 (nI k0) (nI c) S1 = _
        rw [hG, hx]
        show fX12_often_b37 1000 (nI k0) (nI c) S1 = _
        unfold fX12_often_b37
        rw [bnd_t p1]
        exact u1
/-! the next drip -/
noncomputable def ndR (c : Nat → Bool) : Nat → Nat → Int32
  | 0, _ => -1
  | m + 1, k => if c k = true then nI (k + 1) else ndR c m (k + 1)
theorem x_next_h {n0 w h k0 : Nat} {SX SM : gS} (D : jDr n0 w h SX SM) (hk : k0 < n0) : ∀ (m k : Nat) (fuel : Nat), k + m = 60 → m < fuel → fX11_nextDrip_h2 1000 fuel (nI k0) (nI (k + 1)) SX = some (ndR (fun i => bt (bX n0 w SX (h + i)) (nI k0)) m k, SX) := by
  intro m
  induction m with
  | zero =>
    intro k fuel h1 h2
    obtain ⟨f, rfl⟩ : ∃ f, fuel = f + 1 := ⟨fuel - 1, by omega⟩
    have hk6 : k = 60 := by omega
    subst hk6
    rfl
  | succ m ih =>
    intro k fuel h1 h2
    obtain ⟨f, rfl⟩ : ∃ f, fuel = f + 1 := ⟨fuel - 1, by omega⟩
    show fX11_nextDrip_b2 1000 (fX11_nextDrip_h2 1000 f) (nI k0) (nI (k + 1)) SX = _
    unfold fX11_nextDrip_b2
    rw [if_neg (show ¬ 60 < nI (k + 1) from nI_nlt (a := 60) (by omega) (by omega))]
    unfold fX11_nextDrip_b8
    rw [bnd_t (x_ahead D hk (by omega) (by omega))]
    show (if iv (bt (bX n0 w SX (h + k)) (nI k0)) = 0 then _ else _) = some (if bt (bX n0 w SX (h + k)) (nI k0) = true then nI (k + 1) else ndR _ m (k + 1), SX)
    by_cases hb : bt (bX n0 w SX (h + k)) (nI k0) = true
    · rw [if_pos hb, hb]
      rfl
    · rw [if_neg hb, Bool.not_eq_true _ |>.mp hb]
      show fX11_nextDrip_b19 1000 (fX11_nextDrip_h2 1000 f) (nI k0) (nI (k + 1)) SX = _
      unfold fX11_nextDrip_b19
      rw [nI_1 (k + 1)]
      exact ih (k + 1) f (by omega) (by omega)
theorem m_next_h {n0 w h k0 : Nat} {SX S1 S2 : gS} (D : jDr n0 w h SX S2) (E : ∀ S, oSame mHr S2 S → ∃ S4, fX12_unpack 1000 46 0 S = some (0, S4) ∧ mSame S1 S4 ∧ S4 99 4 = 0) : ∀ (m k : Nat) (fuel : Nat) (S : gS), k + m = 60 → m + 1 < fuel → oSame mHr S2 S → S 99 37 = nI (h + k) →
    ∃ S4, fX12_nextDrip_h13 1000 fuel (nI k0) (-1) (nI (k + 1)) S = some (ndR (fun i => bt (bX n0 w SX (h + i)) (nI k0)) m k, S4) ∧ mSame S1 S4 ∧ S4 99 4 = 0 := by
  have h9 := D.2.2.2.2.2.1.1
  intro m
  induction m with
  | zero =>
    intro k fuel S h1 h2 s hh
    obtain ⟨f, rfl⟩ : ∃ f, fuel = f + 1 := ⟨fuel - 1, by omega⟩
    obtain ⟨S4, u1, u2, u3⟩ := E S s
    refine ⟨S4, ?_, u2, u3⟩
    have hk6 : k = 60 := by omega
    subst hk6
    show fX12_nextDrip_b53 1000 (-1) S = _
    unfold fX12_nextDrip_b53
    rw [bnd_t u1]
    rfl
  | succ m ih =>
    intro k fuel S h1 h2 s hh
    obtain ⟨f, rfl⟩ : ∃ f, fuel = f + 1 := ⟨fuel - 1, by omega⟩
    have hst : fX12_nextDrip_h13 1000 (f + 1) (nI k0) (-1) (nI (k + 1)) S = if iv (bt (bX n0 w SX (h + k)) (nI k0)) = 0 then fX12_nextDrip_b37 1000 (fX12_nextDrip_h13 1000 f) (nI k0) (-1) (nI (k + 1)) S else fX12_nextDrip_b35 1000 (fX12_nextDrip_h13 1000 f) (nI k0) (nI (k + 1)) S := by
      show fX12_nextDrip_b13 1000 (fX12_nextDrip_h13 1000 f) (nI k0) (-1) (nI (k + 1)) S = _
      unfold fX12_nextDrip_b13
      rw [if_neg (show ¬ 60 < nI (k + 1) from nI_nlt (a := 60) (by omega) (by omega))]
      unfold fX12_nextDrip_b19
      rw [if_pos rfl]
      unfold fX12_nextDrip_b24
      rw [bnd_t (m_dripAt D s hh (by omega) (by decide))]
      dsimp only
      rw [bnd_t m_isOf]
    by_cases hb : bt (bX n0 w SX (h + k)) (nI k0) = true
    · obtain ⟨S4, u1, u2, u3⟩ := E (sU S 99 37 (nI (h + k) + 1)) (s.up rfl)
      refine ⟨S4, ?_, u2, u3⟩
      rw [hst, hb]
      show fX12_nextDrip_b35 1000 (fX12_nextDrip_h13 1000 f) (nI k0) (nI (k + 1)) S = some (if bt (bX n0 w SX (h + k)) (nI k0) = true then nI (k + 1) else ndR _ m (k + 1), S4)
      rw [if_pos hb]
      unfold fX12_nextDrip_b35 fX12_nextDrip_b37
      dsimp only [lt]
      rw [hh]
      obtain ⟨f', rfl⟩ : ∃ f', f = f' + 1 := ⟨f - 1, by omega⟩
      show fX12_nextDrip_b13 1000 (fX12_nextDrip_h13 1000 f') (nI k0) (nI (k + 1)) (nI (k + 1) + 1) _ = _
      unfold fX12_nextDrip_b13
      have hne : ¬ nI (k + 1) = -1 := fun q => by
        have h7 : (nI (k + 1)).toInt = (-1 : Int32).toInt := by rw [q]
        rw [nI_toInt (by omega)] at h7
        have h8 : (-1 : Int32).toInt = -1 := by decide
        omega
      have hend : fX12_nextDrip_b53 1000 (nI (k + 1)) (sU S 99 37 (nI (h + k) + 1)) = some (nI (k + 1), S4) := by
        unfold fX12_nextDrip_b53
        rw [bnd_t u1]
      by_cases hq : 60 < nI (k + 1) + 1
      · rw [if_pos hq]
        exact hend
      · rw [if_neg hq]
        unfold fX12_nextDrip_b19
        rw [if_neg hne]
        exact hend
    · obtain ⟨S4, u1, u2, u3⟩ := ih (k + 1) f (sU S 99 37 (nI (h + k) + 1)) (by omega) (by omega) (s.up rfl) (by rw [sU_s, nI_1]; rfl)
      refine ⟨S4, ?_, u2, u3⟩
      rw [hst, Bool.not_eq_true _ |>.mp hb]
      show fX12_nextDrip_b37 1000 (fX12_nextDrip_h13 1000 f) (nI k0) (-1) (nI (k + 1)) S = some (if bt (bX n0 w SX (h + k)) (nI k0) = true then nI (k + 1) else ndR _ m (k + 1), S4)
      rw [if_neg hb]
      unfold fX12_nextDrip_b37
      dsimp only [lt]
      rw [hh, nI_1 (k + 1)]
      exact u1
