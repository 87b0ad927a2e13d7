/-! grotto -/
theorem st_grotto : Lw_grotto JJ := by
  intro SX SM x1 x2 hJ
  have hJ1 := hJ.same xSame.rf (code_same SM 0)
  have c0 := code_at SM 0
  obtain ⟨S1, hS1⟩ : ∃ z, z = sU SM 99 4 0 := ⟨_, rfl⟩
  rw [← hS1] at hJ1 c0
  obtain ⟨n0, n1, w, h, hT, hN, D⟩ := hJ1.dr
  obtain ⟨a1, a2, a3⟩ := D.1
  obtain ⟨-, ⟨b1, b2, b3⟩, -, -, hg, -⟩ := hT
  obtain ⟨⟨-, e4, e5, -⟩, -⟩ := hN
  have e4 : SX 21 1 = S1 99 38 := e4
  have hF : ∀ M, fX12_grotto M x1 x2 SM = if iv (inb x1 n0) = 0 then fX12_grotto_b13 M S1 else fX12_grotto_b19 M x1 x2 S1 := by
    intro M
    unfold fX12_grotto fX12_grotto_b0
    dsimp only [lt]
    rw [← hS1, bnd_t (m_isGrotto a2 (by omega))]
  cases hk : inb x1 n0 with
  | false =>
    refine stp_no (t := 1) (v := 0) (w := 0) (SX' := SX) (SM' := sU S1 99 4 1) 1000 1000 (hJ1.same xSame.rf (code_same S1 1)) (by decide) (Or.inr rfl) ?_ ?_ (code_at S1 1)
    · show fX11_grotto_b0 1000 x1 x2 SX = _
      unfold fX11_grotto_b0
      rw [bnx_x (x_needGrotto a1 (by omega)) (by rw [hk]; exact one_ne), hk]
      rfl
    · show fX12_grotto 1000 x1 x2 SM = _
      rw [hF, hk]
      rfl
  | true =>
    obtain ⟨k0, hk0, rfl⟩ := inb_of hk (by omega)
    obtain ⟨⟨xd, xd1, xd2, xd3, xd4⟩, ⟨xp, xp1, xp2, xp3⟩, ⟨xc, xc1, xc2, xc3⟩, ⟨xh, xh1, xh2, xh3⟩⟩ := hg k0 hk0
    have hX : fX11_grotto 1000 (nI k0) x2 SX = if x2 = 0 then fX11_grotto_b48 1000 (nI k0) SX else if x2 = 1 then fX11_grotto_b58 1000 (nI k0) SX else if x2 = 2 then fX11_grotto_b68 1000 (nI k0) SX else if x2 = 3 then fX11_grotto_b78 1000 (nI k0) SX else if x2 = 4 then fX11_grotto_b96 1000 (nI k0) SX else if x2 = 5 then fX11_grotto_b116 1000 (nI k0) SX else if x2 = 6 then fX11_grotto_b132 1000 (nI k0) SX else fX11_grotto_b138 1000 SX := by
      unfold fX11_grotto fX11_grotto_b0
      rw [bnx_t (x_needGrotto a1 (by omega)) (by rw [hk]; rfl)]
    have hM : fX12_grotto 1000 (nI k0) x2 SM = fX12_grotto_b19 1000 (nI k0) x2 S1 := by
      rw [hF, hk]
      rfl
    have key : ∀ v, fX11_grotto 1000 (nI k0) x2 SX = some (0, v, SX) → fX12_grotto_b19 1000 (nI k0) x2 S1 = some (v, S1) → StpT JJ lcA okA (fun N => fX11_grotto N (nI k0) x2 SX) (fun M => fX12_grotto M (nI k0) x2 SM) := fun v h1 h2 => stp_ok (SX := SX) (SM := SM) 1000 1000 hJ1 rfl (Or.inl rfl) h1 (hM.trans h2) c0
    by_cases h0 : x2 = 0
    · subst h0
      refine key (nI xd) ?_ ?_
      · rw [hX]
        show fX11_grotto_b48 1000 (nI k0) SX = _
        unfold fX11_grotto_b48
        dsimp only [lt]
        rw [chk_t (inb_t (by omega) (by decide)), nI_clamp (by omega), xd3]
      · show fX12_grotto_b64 1000 (nI k0) S1 = _
        unfold fX12_grotto_b64
        rw [chk_t (inb_t (by omega) (by decide)), nI_clamp (by omega), xd4]
    by_cases h1 : x2 = 1
    · subst h1
      refine key (nI xp) ?_ ?_
      · rw [hX]
        show fX11_grotto_b58 1000 (nI k0) SX = _
        unfold fX11_grotto_b58
        dsimp only [lt]
        rw [chk_t (inb_t (by omega) (by decide)), nI_clamp (by omega), xp2]
      · show fX12_grotto_b71 1000 (nI k0) S1 = _
        unfold fX12_grotto_b71
        rw [chk_t (inb_t (by omega) (by decide)), nI_clamp (by omega), xp3]
    by_cases h2 : x2 = 2
    · subst h2
      refine key (nI xc) ?_ ?_
      · rw [hX]
        show fX11_grotto_b68 1000 (nI k0) SX = _
        unfold fX11_grotto_b68
        dsimp only [lt]
        rw [chk_t (inb_t (by omega) (by decide)), nI_clamp (by omega), xc2]
      · show fX12_grotto_b78 1000 (nI k0) S1 = _
        unfold fX12_grotto_b78
        rw [chk_t (inb_t (by omega) (by decide)), nI_clamp (by omega), xc3]
    by_cases h3 : x2 = 3
    · subst h3
      refine key (nI xh) ?_ ?_
      · rw [hX]
        show fX11_grotto_b78 1000 (nI k0) SX = _
        unfold fX11_grotto_b78
        dsimp only [lt]
        rw [chk_t (inb_t (by omega) (by decide)), nI_clamp (by omega), xh2]
        rcases (show xh = 0 ∨ xh = 1 by omega) with rfl | rfl
        · rfl
        · rfl
      · show fX12_grotto_b85 1000 (nI k0) S1 = _
        unfold fX12_grotto_b85
        rw [chk_t (inb_t (by omega) (by decide)), nI_clamp (by omega), xh3]
    by_cases h4 : x2 = 4
    · subst h4
      refine key (iv (bt (SX 21 1) (nI k0))) ?_ ?_
      · rw [hX]
        show fX11_grotto_b96 1000 (nI k0) SX = _
        unfold fX11_grotto_b96
        have hd : fX7_isDrained 1000 21 (nI k0) SX = some (iv (bt (SX 21 1) (nI k0)), SX) := by
          unfold fX7_isDrained fX7_isDrained_b0
          rw [bnd_t x_isOneOf]
          exact chk_t zb_iv
        rw [bnd_t hd]
        cases bt (SX 21 1) (nI k0) <;> rfl
      · show fX12_grotto_b92 1000 (nI k0) S1 = _
        unfold fX12_grotto_b92
        rw [shr1_iv, e4]
    by_cases h5 : x2 = 5
    · subst h5
      refine key (hoR (SX (21 + 4)) (nI k0) n1 0) ?_ ?_
      · rw [hX]
        show fX11_grotto_b116 1000 (nI k0) SX = _
        unfold fX11_grotto_b116
        dsimp only [lt]
        rw [bnd_t (x_holderOf b1 b3 (by omega))]
      · show fX12_grotto_b101 1000 (nI k0) S1 = _
        unfold fX12_grotto_b101
        rw [bnd_t (m_hirerOf b2 b3 (by omega)), hoR_eq (r := S1 35) (r' := SX (21 + 4)) n1 0 (fun i _ hi => ((e5 i (by omega)).2.2.2).symm)]
    by_cases h6 : x2 = 6
    · subst h6
      obtain ⟨S2, p1, D2, E⟩ := q_begin D c0
      obtain ⟨S4, u1, u2, u3⟩ := m_next_h (k0 := k0) D2 E 60 0 1000 S2 (by omega) (by omega) oSame.rf D2.2.2.2.2.2.1.2.2
      refine stp_ok (SX := SX) (SM := SM) (SX' := SX) (SM' := S4) (v := ndR (fun i => bt (bX n0 w SX (h + i)) (nI k0)) 60 0) 1000 1000 (hJ1.same xSame.rf u2) rfl (Or.inl rfl) ?_ ?_ u3
      · show fX11_grotto 1000 (nI k0) 6 SX = _
        rw [hX]
        show fX11_grotto_b132 1000 (nI k0) SX = _
        unfold fX11_grotto_b132
        rw [bnd_t (show fX11_nextDrip 1000 (nI k0) SX = some (ndR (fun i => bt (bX n0 w SX (h + i)) (nI k0)) 60 0, SX) from x_next_h D hk0 60 0 1000 (by omega) (by omega))]
      · show fX12_grotto 1000 (nI k0) 6 SM = _
        rw [hM]
        show fX12_grotto_b107 1000 (nI k0) S1 = _
        unfold fX12_grotto_b107
        have hq : fX12_nextDrip 1000 (nI k0) S1 = some (ndR (fun i => bt (bX n0 w SX (h + i)) (nI k0)) 60 0, S4) := by
          unfold fX12_nextDrip fX12_nextDrip_b0
          rw [bnd_t p1]
          exact u1
        rw [bnd_t hq]
    refine stp_no (t := 1) (v := 0) (w := 0) (SX' := SX) (SM' := sU S1 99 4 1) 1000 1000 (hJ1.same xSame.rf (code_same S1 1)) (by decide) (Or.inr rfl) ?_ ?_ (code_at S1 1)
    · show fX11_grotto 1000 (nI k0) x2 SX = _
      rw [hX, if_neg h0, if_neg h1, if_neg h2, if_neg h3, if_neg h4, if_neg h5, if_neg h6]
      rfl
    · show fX12_grotto 1000 (nI k0) x2 SM = _
      rw [hM]
      unfold fX12_grotto_b19
      rw [if_neg h0, if_neg h1, if_neg h2, if_neg h3, if_neg h4, if_neg h5, if_neg h6]
      rfl
