/-! hush, often, grotto -/
theorem q_begin {n0 w h : Nat} {SX S1 : gS} (D : jDr n0 w h SX S1) (c0 : S1 99 4 = 0) : ∃ S2, fX12_pack 1000 46 0 S1 = some (0, S2) ∧ jDr n0 w h SX S2 ∧ ∀ S, oSame mHr S2 S → ∃ S4, fX12_unpack 1000 46 0 S = some (0, S4) ∧ mSame S1 S4 ∧ S4 99 4 = 0 := by
  obtain ⟨S2, p1, p2, p3⟩ := m_pack (N := 1000) (nd := 46) (a := 0) (S := S1) (by decide) (by decide) (by decide) (by decide)
  refine ⟨S2, p1, D.on p2, fun S s => ?_⟩
  obtain ⟨S4, u1, u2, u3⟩ := m_unpack (N := 1000) (nd := 46) (a := 0) (S := S) (by decide) (by decide) (by decide) (by decide)
  refine ⟨S4, u1, m_back p3 p2 (mHr.mov s) u2 u3, ?_⟩
  rw [u2 99 4 (by omega) (by omega), s 99 4 rfl, p2 99 4 (by omega)]
  exact c0
noncomputable def huR (b : Nat → Int32) : Nat → Nat → Int32 → Int32 → Int32
  | 0, _, _, lo => lo
  | m + 1, k, row, lo => huR b m (k + 1) (if b k = 0 then row + 1 else 0) (if lo < (if b k = 0 then row + 1 else 0) then (if b k = 0 then row + 1 else 0) else lo)
theorem x_hush_h {n0 w h n : Nat} {SX SM : gS} (D : jDr n0 w h SX SM) (hn : n ≤ 60) : ∀ (m k : Nat) (row lo : Int32) (fuel : Nat), k + m = n → m < fuel → fX11_hush_h14 1000 fuel (nI n) lo row (nI (k + 1)) SX = some (0, huR (fun i => bX n0 w SX (h + i)) m k row lo, SX) := by
  intro m
  induction m with
  | zero =>
    intro k row lo fuel h1 h2
    obtain ⟨f, rfl⟩ : ∃ f, fuel = f + 1 := ⟨fuel - 1, by omega⟩
    show fX11_hush_b14 1000 _ (nI n) lo row (nI (k + 1)) SX = _
    unfold fX11_hush_b14
    rw [if_pos (nI_lt (by omega) (by omega))]
    rfl
  | succ m ih =>
    intro k row lo fuel h1 h2
    obtain ⟨f, rfl⟩ : ∃ f, fuel = f + 1 := ⟨fuel - 1, by omega⟩
    show fX11_hush_b14 1000 (fX11_hush_h14 1000 f) (nI n) lo row (nI (k + 1)) SX = _
    unfold fX11_hush_b14
    rw [if_neg (nI_nlt (by omega) (by omega))]
    unfold fX11_hush_b20
    rw [bnd_t (x_dripBits D (by omega) (by omega) (by decide))]
    show (if bX n0 w SX (h + k) = 0 then _ else _) = _
    show _ = some (0, huR (fun i => bX n0 w SX (h + i)) m (k + 1) (if bX n0 w SX (h + k) = 0 then row + 1 else 0) (if lo < (if bX n0 w SX (h + k) = 0 then row + 1 else 0) then (if bX n0 w SX (h + k) = 0 then row + 1 else 0) else lo), SX)
    by_cases hb : bX n0 w SX (h + k) = 0
    · rw [if_pos hb, if_pos hb]
      unfold fX11_hush_b29 fX11_hush_b36
      rw [nI_1]
      exact ih (k + 1) _ _ f (by omega) (by omega)
    · rw [if_neg hb, if_neg hb]
      unfold fX11_hush_b35 fX11_hush_b36
      rw [nI_1]
      exact ih (k + 1) _ _ f (by omega) (by omega)
theorem m_hush_h {n0 w h n : Nat} {SX S1 S2 : gS} (D : jDr n0 w h SX S2) (hn : n ≤ 60) (E : ∀ S, oSame mHr S2 S → ∃ S4, fX12_unpack 1000 46 0 S = some (0, S4) ∧ mSame S1 S4 ∧ S4 99 4 = 0) : ∀ (m k : Nat) (row lo : Int32) (fuel : Nat) (S : gS), k + m = n → m < fuel → oSame mHr S2 S → S 99 37 = nI (h + k) →
    ∃ S4, fX12_hush_h39 1000 fuel (nI n) row lo (nI k) S = some (huR (fun i => bX n0 w SX (h + i)) m k row lo, S4) ∧ mSame S1 S4 ∧ S4 99 4 = 0 := by
  have h9 := D.2.2.2.2.2.1.1
  intro m
  induction m with
  | zero =>
    intro k row lo fuel S h1 h2 s hh
    obtain ⟨f, rfl⟩ : ∃ f, fuel = f + 1 := ⟨fuel - 1, by omega⟩
    obtain ⟨S4, u1, u2, u3⟩ := E S s
    refine ⟨S4, ?_, u2, u3⟩
    show fX12_hush_b39 1000 _ (nI n) row lo (nI k) S = _
    unfold fX12_hush_b39
    rw [if_pos (nI_le (by omega) (by omega))]
    unfold fX12_hush_b82
    rw [bnd_t u1]
    rfl
  | succ m ih =>
    intro k row lo fuel S h1 h2 s hh
    obtain ⟨f, rfl⟩ : ∃ f, fuel = f + 1 := ⟨fuel - 1, by omega⟩
    obtain ⟨S4, u1, u2, u3⟩ := ih (k + 1) (if bX n0 w SX (h + k) = 0 then row + 1 else 0) (if lo < (if bX n0 w SX (h + k) = 0 then row + 1 else 0) then (if bX n0 w SX (h + k) = 0 then row + 1 else 0) else lo) f (sU S 99 37 (nI (h + k) + 1)) (by omega) (by omega) (s.up rfl) (by rw [sU_s, nI_1]; rfl)
    refine ⟨S4, ?_, u2, u3⟩
    show fX12_hush_b39 1000 (fX12_hush_h39 1000 f) (nI n) row lo (nI k) S = some (huR (fun i => bX n0 w SX (h + i)) m (k + 1) _ _, S4)
    unfold fX12_hush_b39
    rw [if_neg (nI_ge (by omega) (by omega))]
    unfold fX12_hush_b45
    rw [bnd_t (m_dripAt D s hh (by omega) (by decide))]
    show (if bX n0 w SX (h + k) = 0 then _ else _) = _
    rw [← u1]
    by_cases hb : bX n0 w SX (h + k) = 0
    · rw [if_pos hb, if_pos hb]
      unfold fX12_hush_b52 fX12_hush_b59
      dsimp only [lt]
      rw [hh, nI_1 k]
    · rw [if_neg hb, if_neg hb]
      unfold fX12_hush_b58 fX12_hush_b59
      dsimp only [lt]
      rw [hh, nI_1 k]
theorem st_hush : Lw_hush JJ := by
  intro SX SM x1 hJ
  have hJ1 := hJ.same xSame.rf (code_same SM 0)
  have c0 := code_at SM 0
  obtain ⟨S1, hS1⟩ : ∃ z, z = sU SM 99 4 0 := ⟨_, rfl⟩
  rw [← hS1] at hJ1 c0
  obtain ⟨n0, n1, w, h, hT, hN, D⟩ := hJ1.dr
  have hF : ∀ M, fX12_hush M x1 SM = if iv (wth x1 1 60) = 0 then fX12_hush_b17 M S1 else fX12_hush_b23 M x1 S1 := by
    intro M
    unfold fX12_hush fX12_hush_b0
    dsimp only [lt]
    rw [← hS1, bnd_t in_1_60]
  cases hx : wth x1 1 60 with
  | false =>
    refine stp_no (t := 2) (v := 0) (w := 0) (SX' := SX) (SM' := sU S1 99 4 1) 1000 1000 (hJ1.same xSame.rf (code_same S1 1)) (by decide) (Or.inr rfl) ?_ ?_ (code_at S1 1)
    · show fX11_hush_b0 1000 x1 SX = _
      unfold fX11_hush_b0
      rw [bnx_x x_needWithin (by rw [hx]; exact two_ne), hx]
      rfl
    · show fX12_hush 1000 x1 SM = _
      rw [hF, hx]
      rfl
  | true =>
    obtain ⟨c, c1, c2, rfl⟩ := wth_of (a := 1) (b := 60) (by decide) (by decide) hx
    obtain ⟨S2, p1, D2, E⟩ := q_begin D c0
    obtain ⟨S4, u1, u2, u3⟩ := m_hush_h (n := c) D2 c2 E c 0 0 0 1000 S2 (by omega) (by omega) oSame.rf D2.2.2.2.2.2.1.2.2
    refine stp_ok (SX := SX) (SM := SM) (SX' := SX) (SM' := S4) (v := huR (fun i => bX n0 w SX (h + i)) c 0 0 0) 1000 1000 (hJ1.same xSame.rf u2) rfl (Or.inl rfl) ?_ ?_ u3
    · show fX11_hush_b0 1000 (nI c) SX = _
      unfold fX11_hush_b0
      rw [bnx_t x_needWithin (by rw [hx]; rfl)]
      exact x_hush_h D c2 c 0 0 0 1000 (by omega) (by omega)
    · show fX12_hush 1000 (nI c) SM = _
      rw [hF, hx]
      show fX12_hush_b23 1000 (nI c) S1 = _
      unfold fX12_hush_b23
      rw [bnd_t p1]
      exact u1
/-! bits of what drips, one by one -/
theorem bb_drB {c : Nat → Bool} {i : Nat} (hi : i < 32) : ∀ (m k : Nat) (acc : Int32), k + m ≤ 32 → bb (drB c m k acc) i = (bb acc i || (decide (k ≤ i) && decide (i < k + m) && c i)) := by
  intro m
  induction m with
  | zero =>
    intro k acc h
    show bb acc i = _
    have : (decide (k ≤ i) && decide (i < k + 0)) = false := by
      cases h1 : decide (k ≤ i) with
      | false => rfl
      | true =>
        rw [decide_eq_true_iff] at h1
        rw [Bool.true_and, decide_eq_false (by omega)]
    rw [this, Bool.false_and, Bool.or_false]
  | succ m ih =>
    intro k acc h
    show bb (drB c m (k + 1) _) i = _
    rw [ih (k + 1) _ (by omega)]
    by_cases hk : i = k
    · subst hk
      rw [decide_eq_false (p := i + 1 ≤ i) (by omega), decide_eq_true (p := i ≤ i) (by omega), decide_eq_true (p := i < i + (m + 1)) (by omega)]
      by_cases hc : c i = true
      · rw [if_pos hc, bb_or, bb_pow i hi i hi, hc, decide_eq_true (p := i = i) rfl]
        simp
      · rw [if_neg hc, Bool.not_eq_true _ |>.mp hc]
        simp
    · have e1 : decide (k + 1 ≤ i) = decide (k ≤ i) := decide_eq_decide.mpr (by omega)
      have e2 : decide (i < k + 1 + m) = decide (i < k + (m + 1)) := decide_eq_decide.mpr (by omega)
      rw [e1, e2]
      by_cases hc : c k = true
      · rw [if_pos hc, bb_or, bb_pow k (by omega) i hi, decide_eq_false hk, Bool.or_false]
      · rw [if_neg hc]
theorem bt_bX {n0 w h k : Nat} {SX : gS} (hn : n0 ≤ 8) (hk : k < n0) : bt (bX n0 w SX h) (nI k) = drS (SX (xtw SX + 2) k) (SX (xtw SX + 1) k) (nI h) (wetS w (SX (xtw SX + 9)) h) (bt (SX 21 1) (nI k)) := by
  rw [bt_bb (by omega)]
  unfold bX
  rw [bb_drB (by omega) n0 0 0 (by omega), bb_0, decide_eq_true (p := 0 ≤ k) (by omega), decide_eq_true (p := k < 0 + n0) (by omega)]
  simp
theorem shr1_iv {x k : Int32} : ((x >>> (k &&& 31)) &&& 1 : Int32) = iv (bt x k) := by
  unfold bt iv
  rcases and1 (x >>> (k &&& 31)) with h | h
  · rw [h]
    rfl
  · rw [h]
    rfl
theorem x_ahead {N n0 w h c k : Nat} {SX SM : gS} (D : jDr n0 w h SX SM) (hk : k < n0) (hc : 1 ≤ c) (hb : c ≤ 100) : fX11_dripsAhead N (nI k) (nI c) SX = some (iv (bt (bX n0 w SX (h + c - 1)) (nI k)), SX) := by
  obtain ⟨⟨a1, a2, a3⟩, ⟨w1, w2, w3, w4⟩, hd, hp, -, ⟨e1, e2, e3⟩, -⟩ := D
  rw [bt_bX a3 hk]
  exact x_dripsAhead rfl a1 a3 hk (fun k hk => by obtain ⟨d, q1, q2, q3, -⟩ := hd k hk; exact ⟨d, q1, q2, q3⟩) w2 w1 e2 hc (by omega)
