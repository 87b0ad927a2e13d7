/-! count -/
theorem wetS_eq {n h : Nat} {r r' : Nat → Int32} (e : ∀ i, i < n → r i = r' i) : wetS n r h = wetS n r' h := by
  unfold wetS
  by_cases h0 : n = 0
  · rw [if_pos h0, if_pos h0]
  · rw [if_neg h0, if_neg h0, e _ (Nat.mod_lt _ (by omega))]
theorem st_count : Lw_count JJ := by
  intro SX SM x1 hJ
  have hJ1 := hJ.same xSame.rf (code_same SM 0)
  have c0 := code_at SM 0
  obtain ⟨S1, hS1⟩ : ∃ z, z = sU SM 99 4 0 := ⟨_, rfl⟩
  rw [← hS1] at hJ1 c0
  obtain ⟨n0, n1, hT, hN, hI, hP, hM⟩ := id hJ1
  obtain ⟨⟨a1, a2, a3⟩, ⟨b1, b2, b3⟩, ⟨w, w1, w2, w3, w4⟩, ⟨b, d1, d2, d3⟩, hg, hgr, r1, r2⟩ := hT
  obtain ⟨⟨⟨h, e1, e2, e3⟩, e4, e5, e6, e7⟩, ⟨a, f1, f2, f3, f4⟩, ⟨q, g1, g2, g3, g4⟩, t⟩ := hN
  obtain ⟨n, p1, p2, p3, p4⟩ := hP
  have e2 : SX 21 0 = nI h := e2
  have e3 : S1 99 37 = nI h := e3
  have e4 : SX 21 1 = S1 99 38 := e4
  have key : ∀ v, fX11_count 1000 x1 SX = some (0, v, SX) → fX12_count 1000 x1 SM = some (v, S1) → StpT JJ lcA okA (fun N => fX11_count N x1 SX) (fun M => fX12_count M x1 SM) := fun v h1 h2 => stp_ok (SX := SX) (SM := SM) 1000 1000 hJ1 rfl (Or.inl rfl) h1 h2 c0
  by_cases h0 : x1 = 0
  · subst h0
    refine key (nI n0) ?_ ?_
    · show fX11_count_b84 1000 SX = _
      unfold fX11_count_b84
      dsimp only [lt]
      rw [a1]
    · show fX12_count_b80 1000 0 (sU SM 99 4 0) = _
      rw [← hS1]
      unfold fX12_count_b80
      show some (S1 5 0, S1) = _
      rw [a2]
  by_cases h1 : x1 = 1
  · subst h1
    refine key (nI n1) ?_ ?_
    · show fX11_count_b92 1000 SX = _
      unfold fX11_count_b92
      dsimp only [lt]
      rw [b1]
    · show fX12_count_b80 1000 1 (sU SM 99 4 0) = _
      rw [← hS1]
      unfold fX12_count_b80
      show some (S1 5 1, S1) = _
      rw [b2]
  by_cases h2 : x1 = 2
  · subst h2
    refine key (nI h) ?_ ?_
    · show fX11_count_b100 1000 SX = _
      unfold fX11_count_b100
      rw [e2]
    · show fX12_count_b87 1000 (sU SM 99 4 0) = _
      rw [← hS1]
      unfold fX12_count_b87
      rw [e3]
  by_cases h3 : x1 = 3
  · subst h3
    refine key (wetS w (SX (xtw SX + 9)) h) ?_ ?_
    · show fX11_count_b105 1000 SX = _
      unfold fX11_count_b105
      dsimp only [lt]
      rw [e2, bnd_t (x_wetOf w2 w1 (by omega))]
    · show fX12_count_b92 1000 (sU SM 99 4 0) = _
      rw [← hS1]
      unfold fX12_count_b92
      rw [bnd_t (m_wetOf w3 w1 (by omega) e3 hM.2.1), wetS_eq (r := S1 14) (r' := SX (xtw SX + 9)) (fun i hi => by obtain ⟨x, -, k1, k2⟩ := w4 i hi; rw [k1, k2])]
  by_cases h4 : x1 = 4
  · subst h4
    refine key (bndS b) ?_ ?_
    · show fX11_count_b117 1000 SX = _
      unfold fX11_count_b117
      dsimp only [lt]
      rw [bnd_t (x_mostSin d2 (by omega))]
    · show fX12_count_b97 1000 (sU SM 99 4 0) = _
      rw [← hS1]
      unfold fX12_count_b97
      rw [d3]
      rfl
  by_cases h5 : x1 = 5
  · subst h5
    refine key (hbR (SX (21 + 4)) n1 0 0) ?_ ?_
    · show fX11_count_b125 1000 SX = _
      unfold fX11_count_b125
      dsimp only [lt]
      rw [bnd_t (x_hiredBits b1 b3 (by omega))]
    · show fX12_count_b104 1000 (sU SM 99 4 0) = _
      rw [← hS1]
      unfold fX12_count_b104
      rw [bnd_t (m_hiredNow b2 b3 (by omega)), hbR_eq (r := S1 35) (r' := SX (21 + 4)) n1 0 0 (fun i _ hi => ((e5 i (by omega)).2.2.2).symm)]
  by_cases h6 : x1 = 6
  · subst h6
    refine key (SX 21 1) ?_ ?_
    · show fX11_count_b134 1000 SX = _
      rfl
    · show fX12_count_b109 1000 (sU SM 99 4 0) = _
      rw [← hS1]
      unfold fX12_count_b109
      rw [e4]
  by_cases h7 : x1 = 7
  · subst h7
    refine key (sumR (SX (21 + 2)) n1 0 0) ?_ ?_
    · show fX11_count_b139 1000 SX = _
      unfold fX11_count_b139
      dsimp only [lt]
      rw [bnd_t (x_purses b1 b3 (by omega))]
    · show fX12_count_b114 1000 (sU SM 99 4 0) = _
      rw [← hS1]
      unfold fX12_count_b114
      rw [bnd_t (m_sumOf b2 b3 rfl (by omega)), sumR_eq (r := S1 33) (r' := SX (21 + 2)) n1 0 0 (fun i _ hi => ((e5 i (by omega)).2.1).symm)]
  by_cases h8 : x1 = 8
  · subst h8
    refine key (sumR (SX (21 + 1)) n1 0 0) ?_ ?_
    · show fX11_count_b148 1000 SX = _
      unfold fX11_count_b148
      dsimp only [lt]
      rw [bnd_t (x_sins b1 b3 (by omega))]
    · show fX12_count_b123 1000 (sU SM 99 4 0) = _
      rw [← hS1]
      unfold fX12_count_b123
      rw [bnd_t (m_sumOf b2 b3 rfl (by omega)), sumR_eq (r := S1 32) (r' := SX (21 + 1)) n1 0 0 (fun i _ hi => ((e5 i (by omega)).1).symm)]
  by_cases h9 : x1 = 9
  · subst h9
    refine key (nI a) ?_ ?_
    · show fX11_count_b157 1000 SX = _
      unfold fX11_count_b157
      rw [show SX 26 1 = nI a from f2]
    · show fX12_count_b132 1000 (sU SM 99 4 0) = _
      rw [← hS1]
      unfold fX12_count_b132
      rw [f3]
  by_cases h10 : x1 = 10
  · subst h10
    refine key (nI q) ?_ ?_
    · show fX11_count_b168 1000 SX = _
      unfold fX11_count_b168
      rw [show SX 28 3 = nI q from g2]
    · show fX12_count_b137 1000 (sU SM 99 4 0) = _
      rw [← hS1]
      unfold fX12_count_b137
      rw [g3]
  by_cases h11 : x1 = 11
  · subst h11
    refine key (nI n) ?_ ?_
    · show fX11_count_b179 1000 SX = _
      unfold fX11_count_b179
      rw [p2]
    · show fX12_count_b142 1000 (sU SM 99 4 0) = _
      rw [← hS1]
      unfold fX12_count_b142
      rw [p3]
  by_cases h12 : x1 = 12
  · subst h12
    refine key (SX 32 0) ?_ ?_
    · show fX11_count_b190 1000 SX = _
      rfl
    · show fX12_count_b147 1000 12 (sU SM 99 4 0) = _
      rw [← hS1]
      unfold fX12_count_b147
      show some (S1 17 0, S1) = _
      rw [← t 0 (by omega)]
  by_cases h13 : x1 = 13
  · subst h13
    refine key (SX 32 1) ?_ ?_
    · show fX11_count_b200 1000 SX = _
      rfl
    · show fX12_count_b147 1000 13 (sU SM 99 4 0) = _
      rw [← hS1]
      unfold fX12_count_b147
      show some (S1 17 1, S1) = _
      rw [← t 1 (by omega)]
  by_cases h14 : x1 = 14
  · subst h14
    refine key (SX 32 2) ?_ ?_
    · show fX11_count_b210 1000 SX = _
      rfl
    · show fX12_count_b147 1000 14 (sU SM 99 4 0) = _
      rw [← hS1]
      unfold fX12_count_b147
      show some (S1 17 2, S1) = _
      rw [← t 2 (by omega)]
  refine stp_no (t := 1) (v := 0) (w := 0) (SX' := SX) (SM' := sU S1 99 4 1) 1000 1000 (hJ1.same xSame.rf (code_same S1 1)) (by decide) (Or.inr rfl) ?_ ?_ (code_at S1 1)
  · show fX11_count_b0 1000 x1 SX = _
    unfold fX11_count_b0
    rw [if_neg h0, if_neg h1, if_neg h2, if_neg h3, if_neg h4, if_neg h5, if_neg h6, if_neg h7, if_neg h8, if_neg h9, if_neg h10, if_neg h11, if_neg h12, if_neg h13, if_neg h14]
    rfl
  · show fX12_count_b0 1000 x1 SM = _
    unfold fX12_count_b0
    dsimp only [lt]
    rw [← hS1]
    rw [if_neg h0, if_neg h1, if_neg h2, if_neg h3, if_neg h4, if_neg h5, if_neg h6, if_neg h7, if_neg h8, if_neg h9, if_neg h10, if_neg h11, if_neg h12, if_neg h13, if_neg h14]
    rfl
