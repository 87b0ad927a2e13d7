theorem st_image : Lw_image JJ := by
  intro SX SM hJ
  have hJ1 := hJ.same xSame.rf (code_same SM 0)
  obtain ⟨S1, hS1⟩ : ∃ z, z = sU SM 99 4 0 := ⟨_, rfl⟩
  rw [← hS1] at hJ1
  obtain ⟨X2, a1, a2, a3, a4, a5, a6, a7, a8⟩ := x_copy1 (N := 5000) (k0 := 33) (k1 := 20) (S := SX) (by decide) (by decide)
  obtain ⟨S4, e4⟩ : ∃ z, z = sU (sU (sU S1 99 57 1) 99 58 (S1 99 39)) 99 59 (S1 99 40) := ⟨_, rfl⟩
  have s4 : ∀ i j, ¬ (i = 99 ∧ 57 ≤ j ∧ j ≤ 59) → S4 i j = S1 i j := fun i j h => by rw [e4, sU_n (by omega), sU_n (by omega), sU_n (by omega)]
  obtain ⟨M1, p1, p2, p3⟩ := m_pack (N := 5000) (nd := 60) (a := 0) (S := S4) (by decide) (by decide) (by decide) (by decide)
  obtain ⟨M2, b1, b2, b3⟩ := m_copyTo (N := 5000) (k0 := 61) (k1 := 36) (n := 1040) (S := M1) (by decide) rfl rfl (by decide) (by decide)
  obtain ⟨M3, c1, c2, c3⟩ := m_copyTo (N := 5000) (k0 := 62) (k1 := 48) (n := 8) (S := M2) (by decide) rfl rfl (by decide) (by decide)
  obtain ⟨M4, d1, d2, d3⟩ := m_copyTo (N := 5000) (k0 := 63) (k1 := 49) (n := 8) (S := M3) (by decide) rfl rfl (by decide) (by decide)
  obtain ⟨M5, f1, f2, f3⟩ := m_copyTo (N := 5000) (k0 := 64) (k1 := 50) (n := 8) (S := M4) (by decide) rfl rfl (by decide) (by decide)
  obtain ⟨M6, g1, g2, g3⟩ := m_copyTo (N := 5000) (k0 := 65) (k1 := 17) (n := 3) (S := M5) (by decide) rfl rfl (by decide) (by decide)
  have m1 : ∀ i j, i ≠ 60 → M1 i j = S4 i j := fun i j h => p2 i j (by omega)
  have m6 : ∀ i j, ¬ (60 ≤ i ∧ i ≤ 65) → M6 i j = S4 i j := fun i j h => by rw [g2 i j (by omega), f2 i j (by omega), d2 i j (by omega), c2 i j (by omega), b2 i j (by omega), m1 i j (by omega)]
  have m7 : ∀ i j, ¬ (60 ≤ i ∧ i ≤ 65) → ¬ (i = 99 ∧ 57 ≤ j ∧ j ≤ 59) → M6 i j = S1 i j := fun i j h1 h2 => by rw [m6 i j h1, s4 i j h2]
  have x2 : ∀ i j, ¬ (34 ≤ i ∧ i ≤ 45) → ¬ (i = 0 ∧ j = 8) → sU X2 0 8 1 i j = SX i j := fun i j h1 h2 => by rw [sU_n h2, a2 i j (by omega)]
  refine ⟨5000, (0, sU X2 0 8 1), 5000, (0, M6), ?_, ?_, rfl, ?_⟩
  · show fX11_image 5000 SX = _
    unfold fX11_image fX11_image_b0
    rw [bnd_t a1]
    rfl
  · show fX12_image 5000 SM = _
    unfold fX12_image fX12_image_b0
    dsimp only [lt]
    rw [← hS1, sU_n (i := 99) (j := 39) (by omega), show sU (sU S1 99 57 1) 99 58 (S1 99 39) 99 40 = S1 99 40 by rw [sU_n (by omega), sU_n (by omega)], ← e4]
    rw [bnd_t (show fX12_pack 5000 60 0 S4 = some (0, M1) from p1)]
    dsimp only
    rw [bnd_t b1]
    dsimp only
    rw [bnd_t c1]
    dsimp only
    rw [bnd_t d1]
    dsimp only
    rw [bnd_t f1]
    dsimp only
    rw [bnd_t g1]
  · show JJ (sU X2 0 8 1) M6
    refine hJ1.act (fun i j hij => x2 i j (fun q => by rw [xAct_t (by omega)] at hij; cases hij) (fun q => by rw [q.1, q.2] at hij; cases hij)) (fun i j hij => m7 i j (fun q => by rw [mAct_t (by omega)] at hij; cases hij) (fun q => by rw [mAct_t (by omega)] at hij; cases hij)) (fun n0 n1 hT hN hI => ⟨?_, Or.inr ⟨?_, ?_, ?_⟩⟩)
    · have h6 := hT.2.1.2.2
      refine jBook.cp hN h6 (fun c g h1 h2 h3 => x2 _ _ (by omega) (by omega)) (x2 _ _ (by omega) (by omega)) (fun j hj => x2 _ _ (by omega) (by omega)) (x2 _ _ (by omega) (by omega)) (fun i hi => ⟨x2 _ _ (by omega) (by omega), x2 _ _ (by omega) (by omega), x2 _ _ (by omega) (by omega)⟩) (fun i hi => x2 _ _ (by omega) (by omega)) (fun c g h1 h2 h3 => ?_) (m7 _ _ (by omega) (by omega)) (m7 _ _ (by omega) (by omega)) (fun j hj => m7 _ _ (by omega) (by omega)) (fun i hi => ⟨m7 _ _ (by omega) (by omega), m7 _ _ (by omega) (by omega), m7 _ _ (by omega) (by omega)⟩) (fun i hi => m7 _ _ (by omega) (by omega))
      unfold mSt
      by_cases h0 : c = 0
      · rw [if_pos h0, if_pos h0, m7 _ _ (by omega) (by have := h1 h0; omega)]
      · rw [if_neg h0, if_neg h0, m7 _ _ (by omega) (by omega)]
    · exact sU_s
    · rw [m6 99 57 (by omega), e4, sU_n (by omega), sU_n (by omega), sU_s]
    · have h6 := hT.2.1.2.2
      have y2 : ∀ i j, 34 ≤ i → sU X2 0 8 1 i j = X2 i j := fun i j h => sU_n (by omega)
      refine jBook.cp hN h6 (fun c g h1 h2 h3 => (y2 _ _ (by omega)).trans (a3 c g h1 h2 h3)) ((y2 _ _ (by omega)).trans a4) (fun j hj => (y2 _ _ (by omega)).trans (a5 j hj)) ((y2 _ _ (by omega)).trans a6) (fun i hi => ⟨(y2 _ _ (by omega)).trans (a7 i hi).1, (y2 _ _ (by omega)).trans (a7 i hi).2.1, (y2 _ _ (by omega)).trans (a7 i hi).2.2⟩) (fun i hi => (y2 _ _ (by omega)).trans (a8 i hi)) (fun c g h1 h2 h3 => ?_) ?_ ?_ (fun j hj => ?_) (fun i hi => ⟨?_, ?_, ?_⟩) (fun i hi => ?_)
      · have e60 : ∀ j, M6 60 j = M1 60 j := fun j => by rw [g2 60 j (by omega), f2 60 j (by omega), d2 60 j (by omega), c2 60 j (by omega), b2 60 j (by omega)]
        unfold mAc mSt
        obtain ⟨q1, q2, q3, q4⟩ := p3.2.2 g h3
        rcases (show c = 0 ∨ c = 1 ∨ c = 2 ∨ c = 3 ∨ c = 4 by omega) with rfl | rfl | rfl | rfl | rfl
        · rcases (show g = 0 ∨ g = 1 by have := h1 rfl; omega) with rfl | rfl
          · exact ((e60 _).trans p3.1).trans (s4 _ _ (by omega))
          · exact ((e60 _).trans p3.2.1).trans (s4 _ _ (by omega))
        · exact ((e60 _).trans q1).trans (s4 _ _ (by omega))
        · exact ((e60 _).trans q2).trans (s4 _ _ (by omega))
        · exact ((e60 _).trans q3).trans (s4 _ _ (by omega))
        · exact ((e60 _).trans q4).trans (s4 _ _ (by omega))
      · rw [m6 99 58 (by omega), e4, sU_n (by omega), sU_s]
      · rw [m6 99 59 (by omega), e4, sU_s]
      · rw [g2 61 j (by omega), f2 61 j (by omega), d2 61 j (by omega), c2 61 j (by omega), b3 j hj, m1 36 j (by omega), s4 36 j (by omega)]
      · rw [g2 62 i (by omega), f2 62 i (by omega), d2 62 i (by omega), c3 i hi, b2 48 i (by omega), m1 48 i (by omega), s4 48 i (by omega)]
      · rw [g2 63 i (by omega), f2 63 i (by omega), d3 i hi, c2 49 i (by omega), b2 49 i (by omega), m1 49 i (by omega), s4 49 i (by omega)]
      · rw [g2 64 i (by omega), f3 i hi, d2 50 i (by omega), c2 50 i (by omega), b2 50 i (by omega), m1 50 i (by omega), s4 50 i (by omega)]
      · rw [g3 i hi, f2 17 i (by omega), d2 17 i (by omega), c2 17 i (by omega), b2 17 i (by omega), m1 17 i (by omega), s4 17 i (by omega)]
