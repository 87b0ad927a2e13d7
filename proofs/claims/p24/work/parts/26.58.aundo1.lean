theorem st_undo : Lw_undo JJ := by
  intro SX SM hJ
  have hJ1 := hJ.same xSame.rf (code_same SM 0)
  obtain ⟨S1, hS1⟩ : ∃ z, z = sU SM 99 4 0 := ⟨_, rfl⟩
  rw [← hS1] at hJ1
  obtain ⟨n0, n1, hT, hN, hI, hP, hM⟩ := id hJ1
  obtain ⟨s, ⟨a, f1, f2, f3, f4⟩, q, t⟩ := hN
  have f2 : SX 26 1 = nI a := f2
  by_cases h0 : a = 0
  · subst h0
    refine ⟨5000, (-1, SX), 5000, (-1, S1), ?_, ?_, rfl, hJ1⟩
    · show fX11_undo 5000 SX = _
      unfold fX11_undo fX11_undo_b0 fX0_takeBack fX0_takeBack_b0
      rw [f2, if_neg (by decide)]
      rfl
    · show fX12_undo 5000 SM = _
      unfold fX12_undo fX12_undo_b0
      dsimp only [lt]
      rw [← hS1, f3, if_pos (by decide)]
      rfl
  · obtain ⟨X2, w1, w2, w3⟩ := x_read (N := 5000) (st := 21) (nd := 27) (a := 26 * (a - 1)) (S := sU SX 26 1 (nI (a - 1))) (by decide) rfl (by omega) (by decide)
    obtain ⟨M2, u1, u2, u3⟩ := m_unpack (N := 5000) (nd := 36) (a := 26 * (a - 1)) (S := sU S1 99 39 (nI (a - 1))) (by decide) (by show 26 * (a - 1) + 26 ≤ 1040; omega) (by decide) (by decide)
    have x2 : ∀ i j, ¬ (21 ≤ i ∧ i ≤ 25) → ¬ (i = 26 ∧ j = 1) → X2 i j = SX i j := fun i j h1 h2 => by rw [w2 i j (by omega) (by omega), sU_n h2]
    have m2 : ∀ i j, ¬ (32 ≤ i ∧ i ≤ 35 ∧ j < 6) → ¬ (i = 99 ∧ (j = 37 ∨ j = 38 ∨ j = 39)) → M2 i j = S1 i j := fun i j h1 h2 => by rw [u2 i j h1 (by omega), sU_n (by omega)]
    refine ⟨5000, (nI (a - 1), X2), 5000, (nI (a - 1), M2), ?_, ?_, rfl, ?_⟩
    · show fX11_undo 5000 SX = _
      unfold fX11_undo fX11_undo_b0 fX0_takeBack fX0_takeBack_b0
      rw [f2, if_pos (show (1 : Int32) ≤ nI a from nI_le (a := 1) (by omega) (by omega))]
      unfold fX0_takeBack_b10
      dsimp only [lt]
      rw [f2, nI_m1 (by omega), sU_s, show nI (a - 1) * 26 = nI (26 * (a - 1)) by rw [show (26 : Int32) = nI 26 from rfl, pk_mul, Nat.mul_comm]]
      show bnd (bnd (fX7_read 5000 21 27 (nI (26 * (a - 1))) (sU SX 26 1 (nI (a - 1)))) _) _ = _
      rw [bnd_t w1]
      show some (X2 26 1, X2) = _
      rw [w2 26 1 (by omega) (by omega), sU_s]
    · show fX12_undo 5000 SM = _
      unfold fX12_undo fX12_undo_b0
      dsimp only [lt]
      rw [← hS1, f3, if_neg (nI_ne0 (by omega) (by omega))]
      unfold fX12_undo_b14
      dsimp only [lt]
      rw [f3, nI_m1 (by omega), sU_s, show 26 * nI (a - 1) = nI (26 * (a - 1)) by rw [show (26 : Int32) = nI 26 from rfl, pk_mul], bnd_t u1]
      dsimp only
      rw [u2 99 39 (by omega) (by omega), sU_s]
    · show JJ X2 M2
      refine hJ1.act (fun i j hij => x2 i j (fun q => by rw [xAct_t (by omega)] at hij; cases hij) (fun q => by rw [xAct_t (by omega)] at hij; cases hij)) (fun i j hij => m2 i j (fun q => by rw [mAct_t (by omega)] at hij; cases hij) (fun q => by rw [mAct_t (by omega)] at hij; cases hij)) (fun n0 n1 hT hN hI => ?_)
      have h6 := hT.2.1.2.2
      obtain ⟨s, ⟨a', f1', f2', f3', f4'⟩, ⟨q, g1, g2, g3, g4⟩, t⟩ := hN
      have ea : a' = a := (nI_eq (by omega) (by omega)).mp (f2'.symm.trans f2)
      subst ea
      refine ⟨⟨(f4' (a' - 1) (by omega)).on6 h6 (fun c g h1 hc hg => ?_) (fun c g h1 hc hg => ?_), ⟨a' - 1, by omega, ?_, ?_, fun i hi => (f4' i (by omega)).on (fun c g _ _ => ?_) (fun c g _ _ => ?_)⟩, ⟨q, g1, ?_, ?_, fun i hi => ?_⟩, fun i hi => ?_⟩, hI.on (x2 0 8 (by omega) (by omega)) (fun i j h1 h2 => x2 i j (by omega) (by omega)) (fun i j h1 h2 => m2 i j (by omega) (by omega)) (m2 99 57 (by omega) (by omega)) (m2 99 58 (by omega) (by omega)) (m2 99 59 (by omega) (by omega))⟩
      · unfold xAc xSt
        obtain ⟨p1, p2, p3⟩ := w3
        obtain ⟨q1, q2, q3, q4⟩ := p3 g hg
        have e27 : ∀ j, sU SX 26 1 (nI (a' - 1)) 27 j = SX (20 + 7) j := fun j => sU_n (by omega)
        rcases (show c = 0 ∨ c = 1 ∨ c = 2 ∨ c = 3 ∨ c = 4 by omega) with rfl | rfl | rfl | rfl | rfl
        · rcases (show g = 0 ∨ g = 1 by have := h1 rfl; omega) with rfl | rfl
          · exact p1.symm.trans (e27 _)
          · exact p2.symm.trans (e27 _)
        · exact q1.symm.trans (e27 _)
        · exact q2.symm.trans (e27 _)
        · exact q3.symm.trans (e27 _)
        · exact q4.symm.trans (e27 _)
      · unfold mAc mSt
        obtain ⟨p1, p2, p3⟩ := u3
        obtain ⟨q1, q2, q3, q4⟩ := p3 g hg
        have e36 : ∀ j, sU S1 99 39 (nI (a' - 1)) 36 j = S1 36 j := fun j => sU_n (by omega)
        rcases (show c = 0 ∨ c = 1 ∨ c = 2 ∨ c = 3 ∨ c = 4 by omega) with rfl | rfl | rfl | rfl | rfl
        · rcases (show g = 0 ∨ g = 1 by have := h1 rfl; omega) with rfl | rfl
          · exact p1.symm.trans (e36 _)
          · exact p2.symm.trans (e36 _)
        · exact q1.symm.trans (e36 _)
        · exact q2.symm.trans (e36 _)
        · exact q3.symm.trans (e36 _)
        · exact q4.symm.trans (e36 _)
      · show X2 26 1 = _
        rw [w2 26 1 (by omega) (by omega), sU_s]
      · rw [u2 99 39 (by omega) (by omega), sU_s]
      · unfold xAc
        rw [show X2 (20 + 7) = SX (20 + 7) from funext fun j => x2 _ j (by omega) (by omega)]
      · unfold mAc
        rw [show M2 36 = S1 36 from funext fun j => m2 _ j (by omega) (by omega)]
      · rw [x2 (20 + 8) 3 (by omega) (by omega)]; exact g2
      · rw [m2 99 40 (by omega) (by omega)]; exact g3
      · rw [x2 (20 + 9) i (by omega) (by omega), x2 (20 + 10) i (by omega) (by omega), x2 (20 + 11) i (by omega) (by omega), m2 48 i (by omega) (by omega), m2 49 i (by omega) (by omega), m2 50 i (by omega) (by omega)]
        exact g4 i hi
      · rw [x2 (20 + 12) i (by omega) (by omega), m2 17 i (by omega) (by omega)]
        exact t i hi
