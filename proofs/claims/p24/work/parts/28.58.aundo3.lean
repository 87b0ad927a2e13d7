theorem st_restore : Lw_restore JJ := by
  intro SX SM hJ
  have hJ1 := hJ.same xSame.rf (code_same SM 0)
  obtain ⟨S1, hS1⟩ : ∃ z, z = sU SM 99 4 0 := ⟨_, rfl⟩
  rw [← hS1] at hJ1
  obtain ⟨n0, n1, hT, hN, hI, hP, hM⟩ := id hJ1
  rcases hI with ⟨i1, i2⟩ | ⟨i1, i2, i3⟩
  · refine ⟨5000, (0, SX), 5000, (0, S1), ?_, ?_, rfl, hJ1⟩
    · show fX11_restore 5000 SX = _
      unfold fX11_restore fX11_restore_b0
      rw [i1, if_pos rfl]
      unfold fX11_restore_b18
      rw [i1]
      rfl
    · show fX12_restore 5000 SM = _
      unfold fX12_restore fX12_restore_b0
      dsimp only [lt]
      rw [← hS1, i2, if_pos rfl]
      rfl
  · obtain ⟨X2, a1, a2, a3, a4, a5, a6, a7, a8⟩ := x_copy1 (N := 5000) (k0 := 20) (k1 := 33) (S := SX) (by decide) (by decide)
    obtain ⟨S4, e4⟩ : ∃ z, z = sU (sU S1 99 39 (S1 99 58)) 99 40 (S1 99 59) := ⟨_, rfl⟩
    have s4 : ∀ i j, ¬ (i = 99 ∧ 39 ≤ j ∧ j ≤ 40) → S4 i j = S1 i j := fun i j h => by rw [e4, sU_n (by omega), sU_n (by omega)]
    obtain ⟨M1, p1, p2, p3⟩ := m_unpack (N := 5000) (nd := 60) (a := 0) (S := S4) (by decide) (by decide) (by decide) (by decide)
    obtain ⟨M2, b1, b2, b3⟩ := m_copyTo (N := 5000) (k0 := 36) (k1 := 61) (n := 1040) (S := M1) (by decide) rfl rfl (by decide) (by decide)
    obtain ⟨M3, c1, c2, c3⟩ := m_copyTo (N := 5000) (k0 := 48) (k1 := 62) (n := 8) (S := M2) (by decide) rfl rfl (by decide) (by decide)
    obtain ⟨M4, d1, d2, d3⟩ := m_copyTo (N := 5000) (k0 := 49) (k1 := 63) (n := 8) (S := M3) (by decide) rfl rfl (by decide) (by decide)
    obtain ⟨M5, f1, f2, f3⟩ := m_copyTo (N := 5000) (k0 := 50) (k1 := 64) (n := 8) (S := M4) (by decide) rfl rfl (by decide) (by decide)
    obtain ⟨M6, g1, g2, g3⟩ := m_copyTo (N := 5000) (k0 := 17) (k1 := 65) (n := 3) (S := M5) (by decide) rfl rfl (by decide) (by decide)
    have m5 : ∀ i j, i ≠ 17 → i ≠ 36 → i ≠ 48 → i ≠ 49 → i ≠ 50 → M6 i j = M1 i j := fun i j h1 h2 h3 h4 h5 => by rw [g2 i j h1, f2 i j h5, d2 i j h4, c2 i j h3, b2 i j h2]
    have m1 : ∀ i j, ¬ (32 ≤ i ∧ i ≤ 35 ∧ j < 6) → ¬ (i = 99 ∧ (j = 37 ∨ j = 38)) → M1 i j = S4 i j := fun i j h1 h2 => p2 i j h1 h2
    have m7 : ∀ i j, i ≠ 17 → i ≠ 36 → i ≠ 48 → i ≠ 49 → i ≠ 50 → ¬ (32 ≤ i ∧ i ≤ 35 ∧ j < 6) → ¬ (i = 99 ∧ 37 ≤ j ∧ j ≤ 40) → M6 i j = S1 i j := fun i j h1 h2 h3 h4 h5 h6 h7 => by rw [m5 i j h1 h2 h3 h4 h5, m1 i j h6 (by omega), s4 i j (by omega)]
    have x2 : ∀ i j, ¬ (21 ≤ i ∧ i ≤ 32) → X2 i j = SX i j := fun i j h1 => a2 i j (by omega)
    refine ⟨5000, (1, X2), 5000, (1, M6), ?_, ?_, rfl, ?_⟩
    · show fX11_restore 5000 SX = _
      unfold fX11_restore fX11_restore_b0
      rw [i1, if_neg (by decide)]
      unfold fX11_restore_b7
      rw [bnd_t a1]
      unfold fX11_restore_b18
      show chk (zb (X2 0 8)) (some (X2 0 8, X2)) = _
      rw [x2 0 8 (by omega), i1]
      rfl
    · show fX12_restore 5000 SM = _
      unfold fX12_restore fX12_restore_b0
      dsimp only [lt]
      rw [← hS1, i2, if_neg (by decide)]
      unfold fX12_restore_b14
      dsimp only [lt]
      rw [sU_n (i := 99) (j := 59) (by omega), ← e4]
      rw [bnd_t (show fX12_unpack 5000 60 0 S4 = some (0, M1) from p1)]
      dsimp only
      rw [bnd_t b1]
      dsimp only
      rw [bnd_t c1]
      dsimp only
      rw [bnd_t d1]
      dsimp only
      rw [bnd_t f1]
      dsimp only
      rw [bnd_t g1]
    · show JJ X2 M6
      refine hJ1.act (fun i j hij => x2 i j (fun q => by rw [xAct_t (by omega)] at hij; cases hij)) (fun i j hij => m7 i j ?_ ?_ ?_ ?_ ?_ ?_ ?_) (fun n0 n1 hT hN hI => ?_)
      · exact fun q => by rw [mAct_t (by omega)] at hij; cases hij
      · exact fun q => by rw [mAct_t (by omega)] at hij; cases hij
      · exact fun q => by rw [mAct_t (by omega)] at hij; cases hij
      · exact fun q => by rw [mAct_t (by omega)] at hij; cases hij
      · exact fun q => by rw [mAct_t (by omega)] at hij; cases hij
      · exact fun q => by rw [mAct_t (by omega)] at hij; cases hij
      · exact fun q => by rw [mAct_t (by omega)] at hij; cases hij
      · have h6 := hT.2.1.2.2
        have hI2 : jImg n0 n1 SX S1 := by
          rcases hI with ⟨q, -⟩ | ⟨-, -, q⟩
          · rw [i1] at q
            exact absurd q (by decide)
          · exact q
        refine ⟨jBook.cp hI2 h6 a3 a4 a5 a6 a7 a8 (fun c g h1 h2 h3 => ?_) ?_ ?_ (fun j hj => ?_) (fun i hi => ⟨?_, ?_, ?_⟩) (fun i hi => ?_), hI.on (x2 _ _ (by omega)) (fun i j h1 h2 => x2 _ _ (by omega)) (fun i j h1 h2 => m7 _ _ (by omega) (by omega) (by omega) (by omega) (by omega) (by omega) (by omega)) (m7 _ _ (by omega) (by omega) (by omega) (by omega) (by omega) (by omega) (by omega)) (m7 _ _ (by omega) (by omega) (by omega) (by omega) (by omega) (by omega) (by omega)) (m7 _ _ (by omega) (by omega) (by omega) (by omega) (by omega) (by omega) (by omega))⟩
        · have e60 : ∀ j, S4 60 j = S1 60 j := fun j => s4 60 j (by omega)
          unfold mAc mSt
          obtain ⟨q1, q2, q3, q4⟩ := p3.2.2 g h3
          rcases (show c = 0 ∨ c = 1 ∨ c = 2 ∨ c = 3 ∨ c = 4 by omega) with rfl | rfl | rfl | rfl | rfl
          · rcases (show g = 0 ∨ g = 1 by have := h1 rfl; omega) with rfl | rfl
            · exact ((m5 99 37 (by omega) (by omega) (by omega) (by omega) (by omega)).trans p3.1.symm).trans (e60 _)
            · exact ((m5 99 38 (by omega) (by omega) (by omega) (by omega) (by omega)).trans p3.2.1.symm).trans (e60 _)
          · exact ((m5 32 g (by omega) (by omega) (by omega) (by omega) (by omega)).trans q1.symm).trans (e60 _)
          · exact ((m5 33 g (by omega) (by omega) (by omega) (by omega) (by omega)).trans q2.symm).trans (e60 _)
          · exact ((m5 34 g (by omega) (by omega) (by omega) (by omega) (by omega)).trans q3.symm).trans (e60 _)
          · exact ((m5 35 g (by omega) (by omega) (by omega) (by omega) (by omega)).trans q4.symm).trans (e60 _)
        · rw [m5 99 39 (by omega) (by omega) (by omega) (by omega) (by omega), m1 99 39 (by omega) (by omega), e4, sU_n (by omega), sU_s]
        · rw [m5 99 40 (by omega) (by omega) (by omega) (by omega) (by omega), m1 99 40 (by omega) (by omega), e4, sU_s]
        · rw [g2 36 j (by omega), f2 36 j (by omega), d2 36 j (by omega), c2 36 j (by omega), b3 j hj, m1 61 j (by omega) (by omega), s4 61 j (by omega)]
        · rw [g2 48 i (by omega), f2 48 i (by omega), d2 48 i (by omega), c3 i hi, b2 62 i (by omega), m1 62 i (by omega) (by omega), s4 62 i (by omega)]
        · rw [g2 49 i (by omega), f2 49 i (by omega), d3 i hi, c2 63 i (by omega), b2 63 i (by omega), m1 63 i (by omega) (by omega), s4 63 i (by omega)]
        · rw [g2 50 i (by omega), f3 i hi, d2 64 i (by omega), c2 64 i (by omega), b2 64 i (by omega), m1 64 i (by omega) (by omega), s4 64 i (by omega)]
        · rw [g3 i hi, f2 65 i (by omega), d2 65 i (by omega), c2 65 i (by omega), b2 65 i (by omega), m1 65 i (by omega) (by omega), s4 65 i (by omega)]
