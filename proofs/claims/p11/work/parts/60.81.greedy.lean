theorem jSeen_of {SX S1 Z : gS} (hJ : JJ SX S1) (z6 : tn1 Z ≤ 6) (x5 : SX (xtw SX) 5 = nI (tn1 Z)) : ∃ n wh wn sn, seK Z n wh wn ∧ seX n wh wn sn SX ∧ seM n wh wn sn S1 := by
  obtain ⟨n0, n1, hT, hN, hI, hP, hM⟩ := hJ
  obtain ⟨s, A, ⟨q, g1, g2, g3, g4⟩, t⟩ := hN
  have e1 : n1 = tn1 Z := by
    have := hT.2.1.2.2
    exact (nI_eq (by omega) (by omega)).mp (hT.2.1.1.symm.trans x5)
  subst e1
  refine ⟨q, fun i => (SX 29 i).toNatClampNeg, fun i => (SX 30 i).toNatClampNeg, fun i => SX 31 i, ⟨g1, fun i hi => ?_⟩, ⟨g2, fun i hi => ?_⟩, ⟨g3, fun i hi => ?_⟩⟩
  · obtain ⟨⟨a, a1, a2, a3⟩, ⟨b, b1, b2, b3⟩, -⟩ := g4 i hi
    have a2 : SX 29 i = nI a := a2
    have b2 : SX 30 i = nI b := b2
    dsimp only
    rw [a2, b2, nI_clamp (by omega), nI_clamp (by omega)]
    exact ⟨a1, b1⟩
  · obtain ⟨⟨a, a1, a2, a3⟩, ⟨b, b1, b2, b3⟩, -⟩ := g4 i hi
    have a2 : SX 29 i = nI a := a2
    have b2 : SX 30 i = nI b := b2
    dsimp only
    rw [a2, b2, nI_clamp (by omega), nI_clamp (by omega)]
    exact ⟨rfl, rfl, rfl⟩
  · obtain ⟨⟨a, a1, a2, a3⟩, ⟨b, b1, b2, b3⟩, ⟨c, c1, c2, c3⟩⟩ := g4 i hi
    have a2 : SX 29 i = nI a := a2
    have b2 : SX 30 i = nI b := b2
    have c2 : SX 31 i = nI c := c2
    dsimp only
    rw [a2, b2, c2, nI_clamp (by omega), nI_clamp (by omega)]
    exact ⟨a3, b3, c3⟩
theorem st_greedy : Lw_greedy JJ := by
  intro SX SM x1 hJ
  obtain ⟨S1, Z, h, qs, hS1, c0, hJ1, Zk, h9, C, M, K, w41, x0, x5⟩ := pre hJ
  have z6 := Zk.2.1.2
  obtain ⟨n, wh, wn, sn, hk, X, XM⟩ := jSeen_of hJ1 z6 x5
  have hM0 : fX12_greedy 5000 x1 SM = if iv (wth x1 0 2) = 0 then fX12_greedy_b17 5000 S1 else fX12_greedy_b23 5000 x1 S1 := by
    unfold fX12_greedy fX12_greedy_b0
    dsimp only [lt]
    rw [← hS1, bnd_t in_0_2]
  cases h1 : wth x1 0 2 with
  | false =>
    refine stFl 5000 5000 1 hJ one_ne (Or.inr rfl) (nwF h1) ?_
    show fX12_greedy 5000 x1 SM = _
    rw [hM0, h1, ← hS1]
    rfl
  | true =>
  obtain ⟨F, hF⟩ : ∃ z, z = fitB Z (SX 21 1) h qs n wh wn sn := ⟨_, rfl⟩
  obtain ⟨X2, a1, a2, a3, a4⟩ := x_weigh hF Zk C K hk X h9
  have hX : fX11_greedy 5000 x1 SX = if x1 = 0 then fX11_greedy_b52 5000 X2 else if x1 = 1 then fX11_greedy_b60 5000 X2 else fX11_greedy_b68 5000 X2 := by
    refine (nwT h1).trans ?_
    dsimp only [lt]
    rw [bnd_t a1]
  have hM : fX12_greedy 5000 x1 SM = if x1 = 2 then fX12_greedy_b28 5000 S1 else fX12_greedy_b41 5000 x1 S1 := by
    rw [hM0, h1]
    rfl
  have c60 := cntB_le (c := F) (10 * tn1 Z)
  obtain ⟨c, c1, c2, rfl⟩ := wth_of (a := 0) (b := 2) (by decide) (by decide) h1
  rcases (show c = 2 ∨ c = 0 ∨ c = 1 by omega) with rfl | rfl | rfl
  · obtain ⟨S2, b1, b2⟩ := m_isAsSeen Zk K.h M w41 h9 hk XM
    have s0 : mSame (sU SM 99 4 0) S2 := by rw [← hS1]; exact m5.same b2
    have s4 : S2 99 4 = 0 := (b2 99 4 rfl).trans c0
    refine stSu 5000 5000 (iv (asB Z (SX 21 1) h qs n wh wn sn (Z 5))) hJ rfl (Or.inl rfl) ⟨(0, iv (asB Z (SX 21 1) h qs n wh wn sn (Z 5)), X2), ?_, rfl, rfl, a2⟩ ⟨(iv (asB Z (SX 21 1) h qs n wh wn sn (Z 5)), S2), ?_, rfl, s0, s4⟩
    · show fX11_greedy 5000 (nI 2) SX = _
      rw [hX, asB_all Zk hk, if_neg (by decide), if_neg (by decide)]
      unfold fX11_greedy_b68
      rw [a3]
      cases otB Z (SX 21 1) h qs n wh wn sn (-1) <;> rfl
    · show fX12_greedy 5000 (nI 2) SM = _
      rw [hM]
      show fX12_greedy_b28 5000 S1 = _
      unfold fX12_greedy_b28
      rw [bnd_t b1]
      cases asB Z (SX 21 1) h qs n wh wn sn (Z 5) <;> rfl
  · obtain ⟨S2, b1, b2, b3, b4⟩ := m_tellFits hF Zk M K w41 hk XM h9
    have s0 : mSame (sU SM 99 4 0) S2 := by rw [← hS1]; exact m6.same b2
    have s4 : S2 99 4 = 0 := (b2 99 4 rfl).trans c0
    refine stSu 5000 5000 (nI (cntB F (10 * tn1 Z))) hJ rfl (Or.inl rfl) ⟨(0, X2 62 3, X2), hX, rfl, a4.1, a2⟩ ⟨(S2 99 54, S2), ?_, b3, s0, s4⟩
    show fX12_greedy 5000 (nI 0) SM = _
    rw [hM]
    show fX12_greedy_b41 5000 (nI 0) S1 = _
    unfold fX12_greedy_b41
    rw [bnd_t b1]
    rfl
  · obtain ⟨S2, b1, b2, b3, b4⟩ := m_tellFits hF Zk M K w41 hk XM h9
    have s0 : mSame (sU SM 99 4 0) S2 := by rw [← hS1]; exact m6.same b2
    have s4 : S2 99 4 = 0 := (b2 99 4 rfl).trans c0
    refine stSu 5000 5000 (if cntB F (10 * tn1 Z) = 0 then -1 else nI (fI F 0)) hJ rfl (Or.inl rfl) ⟨(0, X2 62 4, X2), hX, rfl, a4.2.1, a2⟩ ⟨((if cntB F (10 * tn1 Z) = 0 then -1 else nI (fI F 0)), S2), ?_, rfl, s0, s4⟩
    show fX12_greedy 5000 (nI 1) SM = _
    rw [hM]
    show fX12_greedy_b41 5000 (nI 1) S1 = _
    unfold fX12_greedy_b41
    rw [bnd_t b1]
    show fX12_greedy_b56 5000 S2 = _
    unfold fX12_greedy_b56
    rw [b3]
    by_cases q : cntB F (10 * tn1 Z) = 0
    · rw [if_pos q, q]
      rfl
    · rw [if_neg q, if_neg (show ¬ nI (cntB F (10 * tn1 Z)) = 0 from fun z => q ((nI_eq (b := 0) (by omega) (by omega)).mp z))]
      unfold fX12_greedy_b67 fX12_greedy_b73
      rw [b4 0 (by omega)]
