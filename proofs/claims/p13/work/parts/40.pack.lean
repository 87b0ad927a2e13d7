/-! part 54.akeep -/
section
/-! keeping an ACT -/
theorem x_keep {N a : Nat} {S : gS} (ha : S 26 1 = nI a) (h40 : a ≤ 40) (hN : 700 < N) : ∃ S', fX1_keepAct N 20 S = some (0, S') ∧ (∀ i j, i ≠ 27 → ¬ (i = 26 ∧ j = 1) → S' i j = S i j) ∧ S' 26 1 = nI (min (a + 1) 40) ∧ xPk 21 27 (26 * min a 39) S S' ∧ ∀ j, j < 26 * min a 39 → S' 27 j = S 27 (if a = 40 then 26 + j else j) := by
  by_cases h4 : a = 40
  · subst h4
    obtain ⟨S2, e2⟩ : ∃ z, z = sC (sU S 26 1 39) 27 27 26 0 1014 := ⟨_, rfl⟩
    have s2 : ∀ i j, i ≠ 27 → ¬ (i = 26 ∧ j = 1) → S2 i j = S i j := fun i j h1 h2 => by
      rw [e2]
      show (if i = 27 then _ else sU S 26 1 39 i) j = _
      rw [if_neg h1, sU_n (by omega)]
    have s3 : ∀ j, j < 1014 → S2 27 j = S 27 (26 + j) := fun j hj => by
      rw [e2]
      show (if 27 = 27 then va_cpy (sU S 26 1 39 27) (sU S 26 1 39 27) 26 0 1014 else _) j = _
      rw [if_pos rfl, pk_cpy_in (by omega) (by omega), sU_n (by omega), Nat.sub_zero]
    have s4 : S2 26 1 = nI 39 := by
      rw [e2]
      show (if 26 = 27 then _ else sU S 26 1 39 26) 1 = _
      rw [if_neg (by decide), sU_s]
      rfl
    obtain ⟨S3, w1, w2, w3⟩ := x_write (N := N) (st := 21) (nd := 27) (a := 1014) (S := S2) (by decide) rfl (by decide) hN
    refine ⟨sU S3 26 1 (nI 40), ?_, fun i j h1 h2 => ?_, sU_s, ?_, fun j hj => ?_⟩
    · unfold fX1_keepAct fX1_keepAct_b0 fX0_add fX0_add_b0
      rw [show S (20 + 6) 1 = nI 40 from ha, if_neg (by decide)]
      unfold fX0_add_b9
      dsimp only [lt]
      rw [show sU S (20 + 6) 1 39 (20 + 6) 1 = 39 from sU_s, chk_t (by decide)]
      show bnd (fX0_add_b36 N 26 21 (sC (sU S 26 1 39) 27 27 26 0 1014)) _ = _
      rw [← e2]
      unfold fX0_add_b36
      rw [s4, show nI 39 * 26 = nI 1014 from rfl, bnd_t w1]
      dsimp only [lt]
      rw [w2 26 1 (by omega), s4]
      rfl
    · rw [sU_n (by omega), w2 i j (by omega), s2 i j h1 h2]
    · obtain ⟨p1, p2, p3⟩ := w3
      refine ⟨?_, ?_, fun g hg => ?_⟩
      · rw [sU_n (by omega)]
        show S3 27 1014 = S 21 0
        rw [p1, s2 21 0 (by omega) (by omega)]
      · rw [sU_n (by omega)]
        show S3 27 (1014 + 1) = S 21 1
        rw [p2, s2 21 1 (by omega) (by omega)]
      · obtain ⟨q1, q2, q3, q4⟩ := p3 g hg
        rw [sU_n (by omega), sU_n (by omega), sU_n (by omega), sU_n (by omega)]
        refine ⟨?_, ?_, ?_, ?_⟩
        · exact q1.trans (s2 22 g (by omega) (by omega))
        · exact q2.trans (s2 23 g (by omega) (by omega))
        · exact q3.trans (s2 24 g (by omega) (by omega))
        · exact q4.trans (s2 25 g (by omega) (by omega))
    · rw [if_pos rfl, sU_n (by omega), w2 27 j (by omega), s3 j (by omega)]
  · have hm : min a 39 = a := by omega
    rw [hm, show min (a + 1) 40 = a + 1 by omega]
    obtain ⟨S3, w1, w2, w3⟩ := x_write (N := N) (st := 21) (nd := 27) (a := 26 * a) (S := S) (by decide) rfl (by omega) hN
    refine ⟨sU S3 26 1 (nI (a + 1)), ?_, fun i j h1 h2 => ?_, sU_s, ?_, fun j hj => ?_⟩
    · unfold fX1_keepAct fX1_keepAct_b0 fX0_add fX0_add_b0
      rw [show S (20 + 6) 1 = nI a from ha, if_pos (show nI a < 40 from nI_lt (b := 40) (by omega) (by decide))]
      unfold fX0_add_b36
      rw [show S (20 + 6) 1 = nI a from ha, show (26 : Int32) = nI 26 from rfl, pk_mul, Nat.mul_comm a 26]
      show bnd (bnd (fX7_write N 21 27 (nI (26 * a)) S) _) _ = _
      rw [bnd_t w1]
      dsimp only [lt]
      rw [show S3 (20 + 6) 1 = nI a from (w2 26 1 (by omega)).trans ha, nI_1]
      rfl
    · rw [sU_n (by omega), w2 i j (by omega)]
    · obtain ⟨p1, p2, p3⟩ := w3
      refine ⟨by rw [sU_n (by omega)]; exact p1, by rw [sU_n (by omega)]; exact p2, fun g hg => ?_⟩
      rw [sU_n (by omega), sU_n (by omega), sU_n (by omega), sU_n (by omega)]
      exact p3 g hg
    · rw [if_neg h4, sU_n (by omega), w2 27 j (by omega)]
theorem m_keep52 {N a : Nat} {S : gS} (ha : S 99 39 = nI a) (h40 : a < 40) (hN : 700 < N) : ∃ S', fX12_keep_b52 N S = some (0, S') ∧ (∀ i j, ¬ (i = 36 ∧ 26 * a ≤ j ∧ j < 26 * a + 26) → ¬ (i = 99 ∧ j = 39) → S' i j = S i j) ∧ S' 99 39 = nI (a + 1) ∧ pkd 36 (26 * a) S S' := by
  obtain ⟨S2, p1, p2, p3⟩ := m_pack (N := N) (nd := 36) (a := 26 * a) (S := S) (by decide) (by show 26 * a + 26 ≤ 1040; omega) (by decide) (by omega)
  refine ⟨sU S2 99 39 (nI (a + 1)), ?_, fun i j h1 h2 => by rw [sU_n h2, p2 i j h1], sU_s, ?_, ?_, fun g hg => ?_⟩
  · unfold fX12_keep_b52
    rw [ha, show (26 : Int32) = nI 26 from rfl, pk_mul, bnd_t p1]
    dsimp only [lt]
    rw [p2 99 39 (by omega), ha, nI_1]
  · rw [sU_n (by omega)]; exact p3.1
  · rw [sU_n (by omega)]; exact p3.2.1
  · rw [sU_n (by omega), sU_n (by omega), sU_n (by omega), sU_n (by omega)]
    exact p3.2.2 g hg
theorem m_keep {N a : Nat} {S : gS} (ha : S 99 39 = nI a) (h40 : a ≤ 40) (hN : 1040 < N) : ∃ S', fX12_keep N S = some (0, S') ∧ (∀ i j, i ≠ 36 → ¬ (i = 99 ∧ j = 39) → S' i j = S i j) ∧ S' 99 39 = nI (min (a + 1) 40) ∧ pkd 36 (26 * min a 39) S S' ∧ ∀ j, j < 26 * min a 39 → S' 36 j = S 36 (if a = 40 then 26 + j else j) := by
  by_cases h4 : a = 40
  · subst h4
    have main : Gv (fX12_keep_h12 N N 26 S) (fun r => r.1 = 0 ∧ (∀ i j, i ≠ 36 → ¬ (i = 99 ∧ j = 39) → r.2 i j = S i j) ∧ r.2 99 39 = nI 40 ∧ pkd 36 1014 S r.2 ∧ ∀ j, j < 1014 → r.2 36 j = S 36 (26 + j)) := by
      refine loopG (A := gS) (fun f k S => fX12_keep_h12 N f (nI (26 + k)) S) (fun k S' => (∀ i j, i ≠ 36 → S' i j = S i j) ∧ (∀ j, j < k → S' 36 j = S 36 (26 + j)) ∧ ∀ j, k ≤ j → S' 36 j = S 36 j) _ 1014 ?_ ?_ 1014 0 S N (by omega) ⟨fun _ _ _ => rfl, fun j hj => by omega, fun _ _ => rfl⟩ (by omega)
      · rintro f S1 ⟨i1, i2, i3⟩
        show Gv (fX12_keep_b12 N _ (nI 1040) S1) _
        unfold fX12_keep_b12
        rw [if_pos (by decide)]
        unfold fX12_keep_b42
        dsimp only [lt]
        rw [i1 99 39 (by omega), ha, show nI 40 - 1 = nI 39 from rfl]
        obtain ⟨S3, w1, w2, w3, w4⟩ := m_keep52 (N := N) (a := 39) (S := sU S1 99 39 (nI 39)) sU_s (by omega) (by omega)
        refine ⟨(0, S3), w1, rfl, fun i j h1 h2 => ?_, w3, ⟨?_, ?_, fun g hg => ?_⟩, fun j hj => ?_⟩
        · dsimp only
          rw [w2 i j (by omega) h2, sU_n h2, i1 i j h1]
        · exact w4.1.trans (by rw [sU_n (by omega)]; exact i1 99 37 (by omega))
        · exact w4.2.1.trans (by rw [sU_n (by omega)]; exact i1 99 38 (by omega))
        · obtain ⟨q1, q2, q3, q4⟩ := w4.2.2 g hg
          refine ⟨q1.trans ?_, q2.trans ?_, q3.trans ?_, q4.trans ?_⟩
          · rw [sU_n (by omega)]; exact i1 32 g (by omega)
          · rw [sU_n (by omega)]; exact i1 33 g (by omega)
          · rw [sU_n (by omega)]; exact i1 34 g (by omega)
          · rw [sU_n (by omega)]; exact i1 35 g (by omega)
        · dsimp only
          rw [w2 36 j (by omega) (by omega), sU_n (by omega), i2 j hj]
      · rintro f k S1 hk ⟨i1, i2, i3⟩
        refine Or.inr ⟨sU S1 36 k (S 36 (26 + k)), ⟨fun i j h1 => by rw [sU_n (by omega)]; exact i1 i j h1, fun j hj => ?_, fun j hj => by rw [sU_n (by omega)]; exact i3 j (by omega)⟩, ?_⟩
        · by_cases hh : j = k
          · rw [hh, sU_s]
          · rw [sU_n (by omega)]; exact i2 j (by omega)
        · show fX12_keep_b12 N (fX12_keep_h12 N f) (nI (26 + k)) S1 = _
          unfold fX12_keep_b12
          rw [if_neg (show ¬ (1040 : Int32) ≤ nI (26 + k) from nI_ge (b := 1040) (by omega) (by decide))]
          unfold fX12_keep_b21
          have e26 : nI (26 + k) - 26 = nI k := by rw [show (26 : Int32) = nI 26 from rfl, pk_sub (by omega), show 26 + k - 26 = k by omega]
          dsimp only [lt]
          rw [e26, chk_t (inb_t (by omega) (by decide)), chk_t (inb_t (by omega) (by decide)), nI_clamp (n := k) (by omega), nI_clamp (n := 26 + k) (by omega), i3 (26 + k) (by omega), nI_1]
          rfl
    obtain ⟨⟨v, S'⟩, r1, r2, r3, r4, r5, r6⟩ := main
    dsimp only at r2 r3 r4 r5 r6
    subst r2
    refine ⟨S', ?_, r3, r4, r5, fun j hj => ?_⟩
    · unfold fX12_keep fX12_keep_b0
      rw [ha, if_pos (by decide)]
      exact r1
    · rw [if_pos rfl]
      exact r6 j hj
  · have hm : min a 39 = a := by omega
    rw [hm, show min (a + 1) 40 = a + 1 by omega]
    obtain ⟨S3, w1, w2, w3, w4⟩ := m_keep52 (N := N) (a := a) (S := S) ha (by omega) (by omega)
    refine ⟨S3, ?_, fun i j h1 h2 => w2 i j (by omega) h2, w3, w4, fun j hj => ?_⟩
    · unfold fX12_keep fX12_keep_b0
      rw [ha, if_neg (show ¬ nI a = 40 from fun q => h4 ((nI_eq (b := 40) (by omega) (by omega)).mp q))]
      exact w1
    · rw [if_neg h4]
      exact w2 36 j (by omega) (by omega)
theorem jSt.on6 {n0 n1 : Nat} {u v u' v' : Nat → Nat → Int32} (h : jSt n0 n1 u v) (h6 : n1 ≤ 6) (hu : ∀ c g, (c = 0 → g ≤ 1) → c ≤ 4 → g < 6 → u' c g = u c g) (hv : ∀ c g, (c = 0 → g ≤ 1) → c ≤ 4 → g < 6 → v' c g = v c g) : jSt n0 n1 u' v' := by
  obtain ⟨s1, s2, s3, s4, s5⟩ := h
  have u9 : ∀ c g, 1 ≤ c → c ≤ 4 → g < n1 → u' c g = u c g := fun c g h1 h2 h3 => hu c g (fun h => by omega) h2 (by omega)
  have v9 : ∀ c g, 1 ≤ c → c ≤ 4 → g < n1 → v' c g = v c g := fun c g h1 h2 h3 => hv c g (fun h => by omega) h2 (by omega)
  refine ⟨?_, ?_, fun g hg => ?_, fun g hg => ?_, fun g g' h1 h2 => ?_⟩
  · rw [hu 0 0 (fun _ => by omega) (by omega) (by omega), hv 0 0 (fun _ => by omega) (by omega) (by omega)]
    exact s1
  · rw [hu 0 1 (fun _ => by omega) (by omega) (by omega), hv 0 1 (fun _ => by omega) (by omega) (by omega)]
    exact s2
  · rw [u9 1 g (by omega) (by omega) hg, u9 2 g (by omega) (by omega) hg, u9 3 g (by omega) (by omega) hg, u9 4 g (by omega) (by omega) hg, v9 1 g (by omega) (by omega) hg, v9 2 g (by omega) (by omega) hg, v9 3 g (by omega) (by omega) hg, v9 4 g (by omega) (by omega) hg]
    exact s3 g hg
  · rw [v9 1 g (by omega) (by omega) hg, v9 2 g (by omega) (by omega) hg, v9 3 g (by omega) (by omega) hg, v9 4 g (by omega) (by omega) hg]
    exact s4 g hg
  · rw [v9 4 g (by omega) (by omega) h1, v9 4 g' (by omega) (by omega) h2]
    exact s5 g g' h1 h2
theorem JJ.keep {SX SM : gS} (hJ : JJ SX SM) : ∃ SX' SM', fX1_keepAct 5000 20 SX = some (0, SX') ∧ fX12_keep 5000 SM = some (0, SM') ∧ JJ SX' SM' ∧ (∀ i j, i ≠ 27 → ¬ (i = 26 ∧ j = 1) → SX' i j = SX i j) ∧ (∀ i j, i ≠ 36 → ¬ (i = 99 ∧ j = 39) → SM' i j = SM i j) := by
  obtain ⟨n0, n1, hT, hN, hI, hP, hM⟩ := id hJ
  obtain ⟨s, ⟨a, f1, f2, f3, f4⟩, q, t⟩ := hN
  obtain ⟨SX', x1, x2, x3, x4, x5⟩ := x_keep (N := 5000) (a := a) f2 f1 (by decide)
  obtain ⟨SM', m1, m2, m3, m4, m5⟩ := m_keep (N := 5000) (a := a) f3 f1 (by decide)
  refine ⟨SX', SM', x1, m1, ?_, x2, m2⟩
  refine hJ.act (fun i j hij => x2 i j (fun q => by rw [q] at hij; cases hij) (fun q => by rw [q.1] at hij; cases hij)) (fun i j hij => m2 i j (fun q => by rw [q] at hij; cases hij) (fun q => by rw [q.1, q.2] at hij; cases hij)) (fun n0 n1 hT hN hI => ?_)
  have h6 := hT.2.1.2.2
  obtain ⟨s, ⟨a', f1', f2', f3', f4'⟩, ⟨q, g1, g2, g3, g4⟩, t⟩ := hN
  have ea : a' = a := (nI_eq (by omega) (by omega)).mp (f2'.symm.trans f2)
  subst ea
  refine ⟨⟨s.on (fun c g _ hc => ?_) (fun c g h1 hc => ?_), ⟨min (a' + 1) 40, by omega, x3, m3, fun i hi => ?_⟩, ⟨q, g1, ?_, ?_, fun i hi => ?_⟩, fun i hi => ?_⟩, hI.on (x2 0 8 (by omega) (by omega)) (fun i j h1 h2 => x2 i j (by omega) (by omega)) (fun i j h1 h2 => m2 i j (by omega) (by omega)) (m2 99 57 (by omega) (by omega)) (m2 99 58 (by omega) (by omega)) (m2 99 59 (by omega) (by omega))⟩
  · show SX' (21 + c) g = SX (21 + c) g
    exact x2 _ _ (by omega) (by omega)
  · unfold mSt
    by_cases h0 : c = 0
    · rw [if_pos h0, if_pos h0, m2 _ _ (by omega) (by have := h1 h0; omega)]
    · rw [if_neg h0, if_neg h0, m2 _ _ (by omega) (by omega)]
  · by_cases hl : i < min a' 39
    · have key : ∀ j, j < 26 → SX' 27 (26 * i + j) = SX 27 (26 * (if a' = 40 then i + 1 else i) + j) ∧ SM' 36 (26 * i + j) = SM 36 (26 * (if a' = 40 then i + 1 else i) + j) := by
        intro j hj
        rw [x5 (26 * i + j) (by omega), m5 (26 * i + j) (by omega)]
        by_cases h4 : a' = 40
        · rw [if_pos h4, if_pos h4, show 26 + (26 * i + j) = 26 * (i + 1) + j by omega]
          exact ⟨rfl, rfl⟩
        · rw [if_neg h4, if_neg h4]
          exact ⟨rfl, rfl⟩
      refine (f4' (if a' = 40 then i + 1 else i) (by
        by_cases h4 : a' = 40
        · rw [if_pos h4]; omega
        · rw [if_neg h4]; omega)).on6 h6 (fun c g h1 hc hg => ?_) (fun c g h1 hc hg => ?_)
      · unfold xAc
        by_cases h0 : c = 0
        · rw [if_pos h0, if_pos h0]
          exact (key g (by have := h1 h0; omega)).1
        · rw [if_neg h0, if_neg h0]
          have := (key (2 + 4 * g + (c - 1)) (by omega)).1
          rw [show 26 * i + (2 + 4 * g + (c - 1)) = 26 * i + 2 + 4 * g + (c - 1) by omega] at this
          refine this.trans ?_
          congr 1
          omega
      · unfold mAc
        by_cases h0 : c = 0
        · rw [if_pos h0, if_pos h0]
          exact (key g (by have := h1 h0; omega)).2
        · rw [if_neg h0, if_neg h0]
          have := (key (2 + 6 * (c - 1) + g) (by omega)).2
          rw [show 26 * i + (2 + 6 * (c - 1) + g) = 26 * i + 2 + 6 * (c - 1) + g by omega] at this
          refine this.trans ?_
          congr 1
          omega
    · have ei : i = min a' 39 := by omega
      subst ei
      refine s.on6 h6 (fun c g h1 hc hg => ?_) (fun c g h1 hc hg => ?_)
      · unfold xAc xSt
        obtain ⟨p1, p2, p3⟩ := x4
        obtain ⟨q1, q2, q3, q4⟩ := p3 g hg
        rcases (show c = 0 ∨ c = 1 ∨ c = 2 ∨ c = 3 ∨ c = 4 by omega) with rfl | rfl | rfl | rfl | rfl
        · rcases (show g = 0 ∨ g = 1 by have := h1 rfl; omega) with rfl | rfl
          · exact p1
          · exact p2
        · exact q1
        · exact q2
        · exact q3
        · exact q4
      · unfold mAc mSt
        obtain ⟨p1, p2, p3⟩ := m4
        obtain ⟨q1, q2, q3, q4⟩ := p3 g hg
        rcases (show c = 0 ∨ c = 1 ∨ c = 2 ∨ c = 3 ∨ c = 4 by omega) with rfl | rfl | rfl | rfl | rfl
        · rcases (show g = 0 ∨ g = 1 by have := h1 rfl; omega) with rfl | rfl
          · exact p1
          · exact p2
        · exact q1
        · exact q2
        · exact q3
        · exact q4
  · rw [x2 (20 + 8) 3 (by omega) (by omega)]; exact g2
  · rw [m2 99 40 (by omega) (by omega)]; exact g3
  · rw [x2 (20 + 9) i (by omega) (by omega), x2 (20 + 10) i (by omega) (by omega), x2 (20 + 11) i (by omega) (by omega), m2 48 i (by omega) (by omega), m2 49 i (by omega) (by omega), m2 50 i (by omega) (by omega)]
    exact g4 i hi
  · rw [x2 (20 + 12) i (by omega) (by omega), m2 17 i (by omega) (by omega)]
    exact t i hi
/-! refused -/
theorem x_refuse {N k : Nat} {S : gS} (hk : k < 3) : fX1_refuse N 20 (nI k) S = some (-1, sU S 32 k (S 32 k + 1)) := by
  unfold fX1_refuse fX1_refuse_b0
  rw [if_neg (nI_pos (by omega))]
  unfold fX1_refuse_b4
  rw [if_neg (show ¬ (3 : Int32) ≤ nI k from nI_ge (b := 3) hk (by decide))]
  unfold fX1_refuse_b13
  rw [chk_t (inb_t hk (by decide)), chk_t (inb_t hk (by decide)), nI_clamp (by omega)]
  rfl
theorem m_refuse {N k : Nat} {S : gS} (hk : k < 3) : fX12_refuse N (nI k) S = some (-1, sU S 17 k (S 17 k + 1)) := by
  unfold fX12_refuse fX12_refuse_b0
  rw [chk_t (inb_t hk (by decide)), chk_t (inb_t hk (by decide)), nI_clamp (by omega)]
  rfl
theorem JJ.refuse {SX SM : gS} {k : Nat} (hJ : JJ SX SM) (hk : k < 3) : JJ (sU SX 32 k (SX 32 k + 1)) (sU SM 17 k (SM 17 k + 1)) := by
  have x2 : ∀ i j, i ≠ 32 → sU SX 32 k (SX 32 k + 1) i j = SX i j := fun i j h => sU_n (by omega)
  have m2 : ∀ i j, i ≠ 17 → sU SM 17 k (SM 17 k + 1) i j = SM i j := fun i j h => sU_n (by omega)
  refine hJ.act (fun i j hij => x2 i j (fun q => by rw [q] at hij; cases hij)) (fun i j hij => m2 i j (fun q => by rw [q] at hij; cases hij)) (fun n0 n1 hT hN hI => ⟨?_, hI.on (x2 0 8 (by omega)) (fun i j h1 h2 => x2 i j (by omega)) (fun i j h1 h2 => m2 i j (by omega)) (m2 99 57 (by omega)) (m2 99 58 (by omega)) (m2 99 59 (by omega))⟩)
  obtain ⟨s, ⟨a, f1, f2, f3, f4⟩, ⟨q, g1, g2, g3, g4⟩, t⟩ := hN
  refine ⟨s.on (fun c g _ hc => x2 _ _ (by omega)) (fun c g h1 hc => ?_), ⟨a, f1, ?_, ?_, fun i hi => ?_⟩, ⟨q, g1, ?_, ?_, fun i hi => ?_⟩, fun i hi => ?_⟩
  · unfold mSt
    by_cases h0 : c = 0
    · rw [if_pos h0, if_pos h0, m2 _ _ (by omega)]
    · rw [if_neg h0, if_neg h0, m2 _ _ (by omega)]
  · rw [x2 (20 + 6) 1 (by omega)]; exact f2
  · rw [m2 99 39 (by omega)]; exact f3
  · refine (f4 i hi).on (fun c g _ _ => ?_) (fun c g _ _ => ?_)
    · unfold xAc
      rw [show sU SX 32 k (SX 32 k + 1) (20 + 7) = SX (20 + 7) from funext fun j => x2 _ j (by omega)]
    · unfold mAc
      rw [show sU SM 17 k (SM 17 k + 1) 36 = SM 36 from funext fun j => m2 _ j (by omega)]
  · rw [x2 (20 + 8) 3 (by omega)]; exact g2
  · rw [m2 99 40 (by omega)]; exact g3
  · rw [x2 (20 + 9) i (by omega), x2 (20 + 10) i (by omega), x2 (20 + 11) i (by omega), m2 48 i (by omega), m2 49 i (by omega), m2 50 i (by omega)]
    exact g4 i hi
  · by_cases hh : i = k
    · subst hh
      rw [sU_s, sU_s]
      exact congrArg (· + 1) (t i hi)
    · rw [sU_n (by omega), sU_n (by omega)]
      exact t i hi
end
