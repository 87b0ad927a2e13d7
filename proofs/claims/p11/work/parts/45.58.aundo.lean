/-! undo, see, image, restore: their laws -/
theorem xAct_t {i j : Nat} (h : 21 ≤ i ∧ i ≤ 45) : xAct i j = true := by
  unfold xAct
  rw [decide_eq_true h.1, decide_eq_true h.2]
  simp
theorem mAct_t {i j : Nat} (h : i = 17 ∨ (32 ≤ i ∧ i ≤ 36) ∨ (48 ≤ i ∧ i ≤ 50) ∨ (60 ≤ i ∧ i ≤ 65) ∨ (i = 99 ∧ ((37 ≤ j ∧ j ≤ 40) ∨ (57 ≤ j ∧ j ≤ 59)))) : mAct i j = true := by
  unfold mAct
  simp only [Bool.or_eq_true, Bool.and_eq_true, beq_iff_eq, decide_eq_true_iff]
  omega
theorem st_undo : Lw_undo JJ := by
  intro SX SM hJ
  have hJ1 := hJ.same xSame.rf (code_same SM 0)
  obtain ⟨S1, hS1⟩ : ∃ z, z = sU SM 99 4 0 := ⟨_, rfl⟩
  rw [← hS1] at hJ1
  obtain ⟨n0, n1, hT, hN, hI, hP, hM⟩ := id hJ1
  obtain ⟨s, ⟨a, f1, f2, f3, f4⟩, q, t⟩ := hN
  have f2 : SX 26 1 = nI a := f2
  by_cases h0 : a = 0
  · subst h0
    refine ⟨5000, (-1, SX), 5000, (-1, S1), ?_, ?_, rfl, hJ1⟩
    · show fX11_undo 5000 SX = _
      unfold fX11_undo fX11_undo_b0 fX0_takeBack fX0_takeBack_b0
      rw [f2, if_neg (by decide)]
      rfl
    · show fX12_undo 5000 SM = _
      unfold fX12_undo fX12_undo_b0
      dsimp only [lt]
      rw [← hS1, f3, if_pos (by decide)]
      rfl
  · obtain ⟨X2, w1, w2, w3⟩ := x_read (N := 5000) (st := 21) (nd := 27) (a := 26 * (a - 1)) (S := sU SX 26 1 (nI (a - 1))) (by decide) rfl (by omega) (by decide)
    obtain ⟨M2, u1, u2, u3⟩ := m_unpack (N := 5000) (nd := 36) (a := 26 * (a - 1)) (S := sU S1 99 39 (nI (a - 1))) (by decide) (by show 26 * (a - 1) + 26 ≤ 1040; omega) (by decide) (by decide)
    have x2 : ∀ i j, ¬ (21 ≤ i ∧ i ≤ 25) → ¬ (i = 26 ∧ j = 1) → X2 i j = SX i j := fun i j h1 h2 => by rw [w2 i j (by omega) (by omega), sU_n h2]
    have m2 : ∀ i j, ¬ (32 ≤ i ∧ i ≤ 35 ∧ j < 6) → ¬ (i = 99 ∧ (j = 37 ∨ j = 38 ∨ j = 39)) → M2 i j = S1 i j := fun i j h1 h2 => by rw [u2 i j h1 (by omega), sU_n (by omega)]
    refine ⟨5000, (nI (a - 1), X2), 5000, (nI (a - 1), M2), ?_, ?_, rfl, ?_⟩
    · show fX11_undo 5000 SX = _
      unfold fX11_undo fX11_undo_b0 fX0_takeBack fX0_takeBack_b0
      rw [f2, if_pos (show (1 : Int32) ≤ nI a from nI_le (a := 1) (by omega) (by omega))]
      unfold fX0_takeBack_b10
      dsimp only [lt]
      rw [f2, nI_m1 (by omega), sU_s, show nI (a - 1) * 26 = nI (26 * (a - 1)) by rw [show (26 : Int32) = nI 26 from rfl, pk_mul, Nat.mul_comm]]
      show bnd (bnd (fX7_read 5000 21 27 (nI (26 * (a - 1))) (sU SX 26 1 (nI (a - 1)))) _) _ = _
      rw [bnd_t w1]
      show some (X2 26 1, X2) = _
      rw [w2 26 1 (by omega) (by omega), sU_s]
    · show fX12_undo 5000 SM = _
      unfold fX12_undo fX12_undo_b0
      dsimp only [lt]
      rw [← hS1, f3, if_neg (nI_ne0 (by omega) (by omega))]
      unfold fX12_undo_b14
      dsimp only [lt]
      rw [f3, nI_m1 (by omega), sU_s, show 26 * nI (a - 1) = nI (26 * (a - 1)) by rw [show (26 : Int32) = nI 26 from rfl, pk_mul], bnd_t u1]
      dsimp only
      rw [u2 99 39 (by omega) (by omega), sU_s]
    · show JJ X2 M2
      refine hJ1.act (fun i j hij => x2 i j (fun q => by rw [xAct_t (by omega)] at hij; cases hij) (fun q => by rw [xAct_t (by omega)] at hij; cases hij)) (fun i j hij => m2 i j (fun q => by rw [mAct_t (by omega)] at hij; cases hij) (fun q => by rw [mAct_t (by omega)] at hij; cases hij)) (fun n0 n1 hT hN hI => ?_)
      have h6 := hT.2.1.2.2
      obtain ⟨s, ⟨a', f1', f2', f3', f4'⟩, ⟨q, g1, g2, g3, g4⟩, t⟩ := hN
      have ea : a' = a := (nI_eq (by omega) (by omega)).mp (f2'.symm.trans f2)
      subst ea
      refine ⟨⟨(f4' (a' - 1) (by omega)).on6 h6 (fun c g h1 hc hg => ?_) (fun c g h1 hc hg => ?_), ⟨a' - 1, by omega, ?_, ?_, fun i hi => (f4' i (by omega)).on (fun c g _ _ => ?_) (fun c g _ _ => ?_)⟩, ⟨q, g1, ?_, ?_, fun i hi => ?_⟩, fun i hi => ?_⟩, hI.on (x2 0 8 (by omega) (by omega)) (fun i j h1 h2 => x2 i j (by omega) (by omega)) (fun i j h1 h2 => m2 i j (by omega) (by omega)) (m2 99 57 (by omega) (by omega)) (m2 99 58 (by omega) (by omega)) (m2 99 59 (by omega) (by omega))⟩
      · unfold xAc xSt
        obtain ⟨p1, p2, p3⟩ := w3
        obtain ⟨q1, q2, q3, q4⟩ := p3 g hg
        have e27 : ∀ j, sU SX 26 1 (nI (a' - 1)) 27 j = SX (20 + 7) j := fun j => sU_n (by omega)
        rcases (show c = 0 ∨ c = 1 ∨ c = 2 ∨ c = 3 ∨ c = 4 by omega) with rfl | rfl | rfl | rfl | rfl
        · rcases (show g = 0 ∨ g = 1 by have := h1 rfl; omega) with rfl | rfl
          · exact p1.symm.trans (e27 _)
          · exact p2.symm.trans (e27 _)
        · exact q1.symm.trans (e27 _)
        · exact q2.symm.trans (e27 _)
        · exact q3.symm.trans (e27 _)
        · exact q4.symm.trans (e27 _)
      · unfold mAc mSt
        obtain ⟨p1, p2, p3⟩ := u3
        obtain ⟨q1, q2, q3, q4⟩ := p3 g hg
        have e36 : ∀ j, sU S1 99 39 (nI (a' - 1)) 36 j = S1 36 j := fun j => sU_n (by omega)
        rcases (show c = 0 ∨ c = 1 ∨ c = 2 ∨ c = 3 ∨ c = 4 by omega) with rfl | rfl | rfl | rfl | rfl
        · rcases (show g = 0 ∨ g = 1 by have := h1 rfl; omega) with rfl | rfl
          · exact p1.symm.trans (e36 _)
          · exact p2.symm.trans (e36 _)
        · exact q1.symm.trans (e36 _)
        · exact q2.symm.trans (e36 _)
        · exact q3.symm.trans (e36 _)
        · exact q4.symm.trans (e36 _)
      · show X2 26 1 = _
        rw [w2 26 1 (by omega) (by omega), sU_s]
      · rw [u2 99 39 (by omega) (by omega), sU_s]
      · unfold xAc
        rw [show X2 (20 + 7) = SX (20 + 7) from funext fun j => x2 _ j (by omega) (by omega)]
      · unfold mAc
        rw [show M2 36 = S1 36 from funext fun j => m2 _ j (by omega) (by omega)]
      · rw [x2 (20 + 8) 3 (by omega) (by omega)]; exact g2
      · rw [m2 99 40 (by omega) (by omega)]; exact g3
      · rw [x2 (20 + 9) i (by omega) (by omega), x2 (20 + 10) i (by omega) (by omega), x2 (20 + 11) i (by omega) (by omega), m2 48 i (by omega) (by omega), m2 49 i (by omega) (by omega), m2 50 i (by omega) (by omega)]
        exact g4 i hi
      · rw [x2 (20 + 12) i (by omega) (by omega), m2 17 i (by omega) (by omega)]
        exact t i hi
theorem st_image : Lw_image JJ := by
  intro SX SM hJ
  have hJ1 := hJ.same xSame.rf (code_same SM 0)
  obtain ⟨S1, hS1⟩ : ∃ z, z = sU SM 99 4 0 := ⟨_, rfl⟩
  rw [← hS1] at hJ1
  obtain ⟨X2, a1, a2, a3, a4, a5, a6, a7, a8⟩ := x_copy1 (N := 5000) (k0 := 33) (k1 := 20) (S := SX) (by decide) (by decide)
  obtain ⟨S4, e4⟩ : ∃ z, z = sU (sU (sU S1 99 57 1) 99 58 (S1 99 39)) 99 59 (S1 99 40) := ⟨_, rfl⟩
  have s4 : ∀ i j, ¬ (i = 99 ∧ 57 ≤ j ∧ j ≤ 59) → S4 i j = S1 i j := fun i j h => by rw [e4, sU_n (by omega), sU_n (by omega), sU_n (by omega)]
  obtain ⟨M1, p1, p2, p3⟩ := m_pack (N := 5000) (nd := 60) (a := 0) (S := S4) (by decide) (by decide) (by decide) (by decide)
  obtain ⟨M2, b1, b2, b3⟩ := m_copyTo (N := 5000) (k0 := 61) (k1 := 36) (n := 1040) (S := M1) (by decide) rfl rfl (by decide) (by decide)
  obtain ⟨M3, c1, c2, c3⟩ := m_copyTo (N := 5000) (k0 := 62) (k1 := 48) (n := 8) (S := M2) (by decide) rfl rfl (by decide) (by decide)
  obtain ⟨M4, d1, d2, d3⟩ := m_copyTo (N := 5000) (k0 := 63) (k1 := 49) (n := 8) (S := M3) (by decide) rfl rfl (by decide) (by decide)
  obtain ⟨M5, f1, f2, f3⟩ := m_copyTo (N := 5000) (k0 := 64) (k1 := 50) (n := 8) (S := M4) (by decide) rfl rfl (by decide) (by decide)
  obtain ⟨M6, g1, g2, g3⟩ := m_copyTo (N := 5000) (k0 := 65) (k1 := 17) (n := 3) (S := M5) (by decide) rfl rfl (by decide) (by decide)
  have m1 : ∀ i j, i ≠ 60 → M1 i j = S4 i j := fun i j h => p2 i j (by omega)
  have m6 : ∀ i j, ¬ (60 ≤ i ∧ i ≤ 65) → M6 i j = S4 i j := fun i j h => by rw [g2 i j (by omega), f2 i j (by omega), d2 i j (by omega), c2 i j (by omega), b2 i j (by omega), m1 i j (by omega)]
  have m7 : ∀ i j, ¬ (60 ≤ i ∧ i ≤ 65) → ¬ (i = 99 ∧ 57 ≤ j ∧ j ≤ 59) → M6 i j = S1 i j := fun i j h1 h2 => by rw [m6 i j h1, s4 i j h2]
  have x2 : ∀ i j, ¬ (34 ≤ i ∧ i ≤ 45) → ¬ (i = 0 ∧ j = 8) → sU X2 0 8 1 i j = SX i j := fun i j h1 h2 => by rw [sU_n h2, a2 i j (by omega)]
  refine ⟨5000, (0, sU X2 0 8 1), 5000, (0, M6), ?_, ?_, rfl, ?_⟩
  · show fX11_image 5000 SX = _
    unfold fX11_image fX11_image_b0
    rw [bnd_t a1]
    rfl
  · show fX12_image 5000 SM = _
    unfold fX12_image fX12_image_b0
    dsimp only [lt]
    rw [← hS1, sU_n (i := 99) (j := 39) (by omega), show sU (sU S1 99 57 1) 99 58 (S1 99 39) 99 40 = S1 99 40 by rw [sU_n (by omega), sU_n (by omega)], ← e4]
    rw [bnd_t (show fX12_pack 5000 60 0 S4 = some (0, M1) from p1)]
    dsimp only
    rw [bnd_t b1]
    dsimp only
    rw [bnd_t c1]
    dsimp only
    rw [bnd_t d1]
    dsimp only
    rw [bnd_t f1]
    dsimp only
    rw [bnd_t g1]
  · show JJ (sU X2 0 8 1) M6
    refine hJ1.act (fun i j hij => x2 i j (fun q => by rw [xAct_t (by omega)] at hij; cases hij) (fun q => by rw [q.1, q.2] at hij; cases hij)) (fun i j hij => m7 i j (fun q => by rw [mAct_t (by omega)] at hij; cases hij) (fun q => by rw [mAct_t (by omega)] at hij; cases hij)) (fun n0 n1 hT hN hI => ⟨?_, Or.inr ⟨?_, ?_, ?_⟩⟩)
    · have h6 := hT.2.1.2.2
      refine jBook.cp hN h6 (fun c g h1 h2 h3 => x2 _ _ (by omega) (by omega)) (x2 _ _ (by omega) (by omega)) (fun j hj => x2 _ _ (by omega) (by omega)) (x2 _ _ (by omega) (by omega)) (fun i hi => ⟨x2 _ _ (by omega) (by omega), x2 _ _ (by omega) (by omega), x2 _ _ (by omega) (by omega)⟩) (fun i hi => x2 _ _ (by omega) (by omega)) (fun c g h1 h2 h3 => ?_) (m7 _ _ (by omega) (by omega)) (m7 _ _ (by omega) (by omega)) (fun j hj => m7 _ _ (by omega) (by omega)) (fun i hi => ⟨m7 _ _ (by omega) (by omega), m7 _ _ (by omega) (by omega), m7 _ _ (by omega) (by omega)⟩) (fun i hi => m7 _ _ (by omega) (by omega))
      unfold mSt
      by_cases h0 : c = 0
      · rw [if_pos h0, if_pos h0, m7 _ _ (by omega) (by have := h1 h0; omega)]
      · rw [if_neg h0, if_neg h0, m7 _ _ (by omega) (by omega)]
    · exact sU_s
    · rw [m6 99 57 (by omega), e4, sU_n (by omega), sU_n (by omega), sU_s]
    · have h6 := hT.2.1.2.2
      have y2 : ∀ i j, 34 ≤ i → sU X2 0 8 1 i j = X2 i j := fun i j h => sU_n (by omega)
      refine jBook.cp hN h6 (fun c g h1 h2 h3 => (y2 _ _ (by omega)).trans (a3 c g h1 h2 h3)) ((y2 _ _ (by omega)).trans a4) (fun j hj => (y2 _ _ (by omega)).trans (a5 j hj)) ((y2 _ _ (by omega)).trans a6) (fun i hi => ⟨(y2 _ _ (by omega)).trans (a7 i hi).1, (y2 _ _ (by omega)).trans (a7 i hi).2.1, (y2 _ _ (by omega)).trans (a7 i hi).2.2⟩) (fun i hi => (y2 _ _ (by omega)).trans (a8 i hi)) (fun c g h1 h2 h3 => ?_) ?_ ?_ (fun j hj => ?_) (fun i hi => ⟨?_, ?_, ?_⟩) (fun i hi => ?_)
      · have e60 : ∀ j, M6 60 j = M1 60 j := fun j => by rw [g2 60 j (by omega), f2 60 j (by omega), d2 60 j (by omega), c2 60 j (by omega), b2 60 j (by omega)]
        unfold mAc mSt
        obtain ⟨q1, q2, q3, q4⟩ := p3.2.2 g h3
        rcases (show c = 0 ∨ c = 1 ∨ c = 2 ∨ c = 3 ∨ c = 4 by omega) with rfl | rfl | rfl | rfl | rfl
        · rcases (show g = 0 ∨ g = 1 by have := h1 rfl; omega) with rfl | rfl
          · exact ((e60 _).trans p3.1).trans (s4 _ _ (by omega))
          · exact ((e60 _).trans p3.2.1).trans (s4 _ _ (by omega))
        · exact ((e60 _).trans q1).trans (s4 _ _ (by omega))
        · exact ((e60 _).trans q2).trans (s4 _ _ (by omega))
        · exact ((e60 _).trans q3).trans (s4 _ _ (by omega))
        · exact ((e60 _).trans q4).trans (s4 _ _ (by omega))
      · rw [m6 99 58 (by omega), e4, sU_n (by omega), sU_s]
      · rw [m6 99 59 (by omega), e4, sU_s]
      · rw [g2 61 j (by omega), f2 61 j (by omega), d2 61 j (by omega), c2 61 j (by omega), b3 j hj, m1 36 j (by omega), s4 36 j (by omega)]
      · rw [g2 62 i (by omega), f2 62 i (by omega), d2 62 i (by omega), c3 i hi, b2 48 i (by omega), m1 48 i (by omega), s4 48 i (by omega)]
      · rw [g2 63 i (by omega), f2 63 i (by omega), d3 i hi, c2 49 i (by omega), b2 49 i (by omega), m1 49 i (by omega), s4 49 i (by omega)]
      · rw [g2 64 i (by omega), f3 i hi, d2 50 i (by omega), c2 50 i (by omega), b2 50 i (by omega), m1 50 i (by omega), s4 50 i (by omega)]
      · rw [g3 i hi, f2 17 i (by omega), d2 17 i (by omega), c2 17 i (by omega), b2 17 i (by omega), m1 17 i (by omega), s4 17 i (by omega)]
theorem st_restore : Lw_restore JJ := by
  intro SX SM hJ
  have hJ1 := hJ.same xSame.rf (code_same SM 0)
  obtain ⟨S1, hS1⟩ : ∃ z, z = sU SM 99 4 0 := ⟨_, rfl⟩
  rw [← hS1] at hJ1
  obtain ⟨n0, n1, hT, hN, hI, hP, hM⟩ := id hJ1
  rcases hI with ⟨i1, i2⟩ | ⟨i1, i2, i3⟩
  · refine ⟨5000, (0, SX), 5000, (0, S1), ?_, ?_, rfl, hJ1⟩
    · show fX11_restore 5000 SX = _
      unfold fX11_restore fX11_restore_b0
      rw [i1, if_pos rfl]
      unfold fX11_restore_b18
      rw [i1]
      rfl
    · show fX12_restore 5000 SM = _
      unfold fX12_restore fX12_restore_b0
      dsimp only [lt]
      rw [← hS1, i2, if_pos rfl]
      rfl
  · obtain ⟨X2, a1, a2, a3, a4, a5, a6, a7, a8⟩ := x_copy1 (N := 5000) (k0 := 20) (k1 := 33) (S := SX) (by decide) (by decide)
    obtain ⟨S4, e4⟩ : ∃ z, z = sU (sU S1 99 39 (S1 99 58)) 99 40 (S1 99 59) := ⟨_, rfl⟩
    have s4 : ∀ i j, ¬ (i = 99 ∧ 39 ≤ j ∧ j ≤ 40) → S4 i j = S1 i j := fun i j h => by rw [e4, sU_n (by omega), sU_n (by omega)]
    obtain ⟨M1, p1, p2, p3⟩ := m_unpack (N := 5000) (nd := 60) (a := 0) (S := S4) (by decide) (by decide) (by decide) (by decide)
    obtain ⟨M2, b1, b2, b3⟩ := m_copyTo (N := 5000) (k0 := 36) (k1 := 61) (n := 1040) (S := M1) (by decide) rfl rfl (by decide) (by decide)
    obtain ⟨M3, c1, c2, c3⟩ := m_copyTo (N := 5000) (k0 := 48) (k1 := 62) (n := 8) (S := M2) (by decide) rfl rfl (by decide) (by decide)
    obtain ⟨M4, d1, d2, d3⟩ := m_copyTo (N := 5000) (k0 := 49) (k1 := 63) (n := 8) (S := M3) (by decide) rfl rfl (by decide) (by decide)
    obtain ⟨M5, f1, f2, f3⟩ := m_copyTo (N := 5000) (k0 := 50) (k1 := 64) (n := 8) (S := M4) (by decide) rfl rfl (by decide) (by decide)
    obtain ⟨M6, g1, g2, g3⟩ := m_copyTo (N := 5000) (k0 := 17) (k1 := 65) (n := 3) (S := M5) (by decide) rfl rfl (by decide) (by decide)
    have m5 : ∀ i j, i ≠ 17 → i ≠ 36 → i ≠ 48 → i ≠ 49 → i ≠ 50 → M6 i j = M1 i j := fun i j h1 h2 h3 h4 h5 => by rw [g2 i j h1, f2 i j h5, d2 i j h4, c2 i j h3, b2 i j h2]
    have m1 : ∀ i j, ¬ (32 ≤ i ∧ i ≤ 35 ∧ j < 6) → ¬ (i = 99 ∧ (j = 37 ∨ j = 38)) → M1 i j = S4 i j := fun i j h1 h2 => p2 i j h1 h2
    have m7 : ∀ i j, i ≠ 17 → i ≠ 36 → i ≠ 48 → i ≠ 49 → i ≠ 50 → ¬ (32 ≤ i ∧ i ≤ 35 ∧ j < 6) → ¬ (i = 99 ∧ 37 ≤ j ∧ j ≤ 40) → M6 i j = S1 i j := fun i j h1 h2 h3 h4 h5 h6 h7 => by rw [m5 i j h1 h2 h3 h4 h5, m1 i j h6 (by omega), s4 i j (by omega)]
    have x2 : ∀ i j, ¬ (21 ≤ i ∧ i ≤ 32) → X2 i j = SX i j := fun i j h1 => a2 i j (by omega)
    refine ⟨5000, (1, X2), 5000, (1, M6), ?_, ?_, rfl, ?_⟩
    · show fX11_restore 5000 SX = _
      unfold fX11_restore fX11_restore_b0
      rw [i1, if_neg (by decide)]
      unfold fX11_restore_b7
      rw [bnd_t a1]
      unfold fX11_restore_b18
      show chk (zb (X2 0 8)) (some (X2 0 8, X2)) = _
      rw [x2 0 8 (by omega), i1]
      rfl
    · show fX12_restore 5000 SM = _
      unfold fX12_restore fX12_restore_b0
      dsimp only [lt]
      rw [← hS1, i2, if_neg (by decide)]
      unfold fX12_restore_b14
      dsimp only [lt]
      rw [sU_n (i := 99) (j := 59) (by omega), ← e4]
      rw [bnd_t (show fX12_unpack 5000 60 0 S4 = some (0, M1) from p1)]
      dsimp only
      rw [bnd_t b1]
      dsimp only
      rw [bnd_t c1]
      dsimp only
      rw [bnd_t d1]
      dsimp only
      rw [bnd_t f1]
      dsimp only
      rw [bnd_t g1]
    · show JJ X2 M6
      refine hJ1.act (fun i j hij => x2 i j (fun q => by rw [xAct_t (by omega)] at hij; cases hij)) (fun i j hij => m7 i j ?_ ?_ ?_ ?_ ?_ ?_ ?_) (fun n0 n1 hT hN hI => ?_)
      · exact fun q => by rw [mAct_t (by omega)] at hij; cases hij
      · exact fun q => by rw [mAct_t (by omega)] at hij; cases hij
      · exact fun q => by rw [mAct_t (by omega)] at hij; cases hij
      · exact fun q => by rw [mAct_t (by omega)] at hij; cases hij
      · exact fun q => by rw [mAct_t (by omega)] at hij; cases hij
      · exact fun q => by rw [mAct_t (by omega)] at hij; cases hij
      · exact fun q => by rw [mAct_t (by omega)] at hij; cases hij
      · have h6 := hT.2.1.2.2
        have hI2 : jImg n0 n1 SX S1 := by
          rcases hI with ⟨q, -⟩ | ⟨-, -, q⟩
          · rw [i1] at q
            exact absurd q (by decide)
          · exact q
        refine ⟨jBook.cp hI2 h6 a3 a4 a5 a6 a7 a8 (fun c g h1 h2 h3 => ?_) ?_ ?_ (fun j hj => ?_) (fun i hi => ⟨?_, ?_, ?_⟩) (fun i hi => ?_), hI.on (x2 _ _ (by omega)) (fun i j h1 h2 => x2 _ _ (by omega)) (fun i j h1 h2 => m7 _ _ (by omega) (by omega) (by omega) (by omega) (by omega) (by omega) (by omega)) (m7 _ _ (by omega) (by omega) (by omega) (by omega) (by omega) (by omega) (by omega)) (m7 _ _ (by omega) (by omega) (by omega) (by omega) (by omega) (by omega) (by omega)) (m7 _ _ (by omega) (by omega) (by omega) (by omega) (by omega) (by omega) (by omega))⟩
        · have e60 : ∀ j, S4 60 j = S1 60 j := fun j => s4 60 j (by omega)
          unfold mAc mSt
          obtain ⟨q1, q2, q3, q4⟩ := p3.2.2 g h3
          rcases (show c = 0 ∨ c = 1 ∨ c = 2 ∨ c = 3 ∨ c = 4 by omega) with rfl | rfl | rfl | rfl | rfl
          · rcases (show g = 0 ∨ g = 1 by have := h1 rfl; omega) with rfl | rfl
            · exact ((m5 99 37 (by omega) (by omega) (by omega) (by omega) (by omega)).trans p3.1.symm).trans (e60 _)
            · exact ((m5 99 38 (by omega) (by omega) (by omega) (by omega) (by omega)).trans p3.2.1.symm).trans (e60 _)
          · exact ((m5 32 g (by omega) (by omega) (by omega) (by omega) (by omega)).trans q1.symm).trans (e60 _)
          · exact ((m5 33 g (by omega) (by omega) (by omega) (by omega) (by omega)).trans q2.symm).trans (e60 _)
          · exact ((m5 34 g (by omega) (by omega) (by omega) (by omega) (by omega)).trans q3.symm).trans (e60 _)
          · exact ((m5 35 g (by omega) (by omega) (by omega) (by omega) (by omega)).trans q4.symm).trans (e60 _)
        · rw [m5 99 39 (by omega) (by omega) (by omega) (by omega) (by omega), m1 99 39 (by omega) (by omega), e4, sU_n (by omega), sU_s]
        · rw [m5 99 40 (by omega) (by omega) (by omega) (by omega) (by omega), m1 99 40 (by omega) (by omega), e4, sU_s]
        · rw [g2 36 j (by omega), f2 36 j (by omega), d2 36 j (by omega), c2 36 j (by omega), b3 j hj, m1 61 j (by omega) (by omega), s4 61 j (by omega)]
        · rw [g2 48 i (by omega), f2 48 i (by omega), d2 48 i (by omega), c3 i hi, b2 62 i (by omega), m1 62 i (by omega) (by omega), s4 62 i (by omega)]
        · rw [g2 49 i (by omega), f2 49 i (by omega), d3 i hi, c2 63 i (by omega), b2 63 i (by omega), m1 63 i (by omega) (by omega), s4 63 i (by omega)]
        · rw [g2 50 i (by omega), f3 i hi, d2 64 i (by omega), c2 64 i (by omega), b2 64 i (by omega), m1 64 i (by omega) (by omega), s4 64 i (by omega)]
        · rw [g3 i hi, f2 65 i (by omega), d2 65 i (by omega), c2 65 i (by omega), b2 65 i (by omega), m1 65 i (by omega) (by omega), s4 65 i (by omega)]
