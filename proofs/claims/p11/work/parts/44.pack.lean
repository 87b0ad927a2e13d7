/-! part 57.aimage -/
section
/-! undo, see, image, restore -/
theorem jBook.cp {n0 n1 bs bs' past sg si sn stt past' sg' si' sn' stt' : Nat} {mst mst' : Nat → Nat → Int32} {ma ms ma' ms' : Int32} {SX SM SX' SM' : gS} (h : jBook n0 n1 bs SX mst ma ms past sg si sn stt SM) (h6 : n1 ≤ 6)
    (xs : ∀ c g, (c = 0 → g ≤ 1) → c ≤ 4 → g < 6 → SX' (bs' + 1 + c) g = SX (bs + 1 + c) g) (xa : SX' (bs' + 6) 1 = SX (bs + 6) 1) (xp : ∀ j, j < 1040 → SX' (bs' + 7) j = SX (bs + 7) j) (xq : SX' (bs' + 8) 3 = SX (bs + 8) 3) (xr : ∀ i, i < 8 → SX' (bs' + 9) i = SX (bs + 9) i ∧ SX' (bs' + 10) i = SX (bs + 10) i ∧ SX' (bs' + 11) i = SX (bs + 11) i) (xt : ∀ i, i < 3 → SX' (bs' + 12) i = SX (bs + 12) i)
    (mm : ∀ c g, (c = 0 → g ≤ 1) → c ≤ 4 → g < 6 → mst' c g = mst c g) (ea : ma' = ma) (es : ms' = ms) (mp : ∀ j, j < 1040 → SM' past' j = SM past j) (mr : ∀ i, i < 8 → SM' sg' i = SM sg i ∧ SM' si' i = SM si i ∧ SM' sn' i = SM sn i) (mt : ∀ i, i < 3 → SM' stt' i = SM stt i) : jBook n0 n1 bs' SX' mst' ma' ms' past' sg' si' sn' stt' SM' := by
  obtain ⟨s, ⟨a, a1, a2, a3, a4⟩, ⟨q, q1, q2, q3, q4⟩, t⟩ := h
  subst ea es
  refine ⟨s.on6 h6 (fun c g h1 h2 h3 => xs c g h1 h2 h3) mm, ⟨a, a1, xa.trans a2, a3, fun i hi => (a4 i hi).on6 h6 (fun c g h1 h2 h3 => ?_) (fun c g h1 h2 h3 => ?_)⟩, ⟨q, q1, xq.trans q2, q3, fun i hi => ?_⟩, fun i hi => ?_⟩
  · unfold xAc
    by_cases h0 : c = 0
    · rw [if_pos h0, if_pos h0, xp _ (by have := h1 h0; omega)]
    · rw [if_neg h0, if_neg h0, xp _ (by omega)]
  · unfold mAc
    by_cases h0 : c = 0
    · rw [if_pos h0, if_pos h0, mp _ (by have := h1 h0; omega)]
    · rw [if_neg h0, if_neg h0, mp _ (by omega)]
  · obtain ⟨r1, r2, r3⟩ := xr i (by omega)
    obtain ⟨p1, p2, p3⟩ := mr i (by omega)
    rw [r1, r2, r3, p1, p2, p3]
    exact q4 i hi
  · rw [xt i hi, mt i hi]
    exact t i hi
theorem m_copyTo {N k0 k1 n : Nat} {S : gS} (hk : k0 ≠ k1) (h0 : mN k0 = n) (h1 : mN k1 = n) (hn : n < N) (hN : N < 2 ^ 31) : ∃ S', fX12_copyTo N k0 k1 S = some (0, S') ∧ (∀ i j, i ≠ k0 → S' i j = S i j) ∧ ∀ j, j < n → S' k0 j = S k1 j := by
  have main : Gv (fX12_copyTo_h2 N N k0 k1 0 S) (fun r => r.1 = 0 ∧ (∀ i j, i ≠ k0 → r.2 i j = S i j) ∧ ∀ j, j < n → r.2 k0 j = S k1 j) := by
    refine loopG (A := gS) (fun f k S => fX12_copyTo_h2 N f k0 k1 (nI k) S) (fun k S' => (∀ i j, i ≠ k0 → S' i j = S i j) ∧ ∀ j, j < k → S' k0 j = S k1 j) _ n ?_ ?_ n 0 S N (by omega) ⟨fun _ _ _ => rfl, fun j hj => by omega⟩ (by omega)
    · rintro f S1 ⟨i1, i2⟩
      refine ⟨(0, S1), ?_, rfl, i1, i2⟩
      show fX12_copyTo_b2 N _ k0 k1 (nI n) S1 = _
      unfold fX12_copyTo_b2
      rw [h0, if_pos (show Int32.ofNat n ≤ nI n from nI_le (Nat.le_refl _) (by omega))]
      rfl
    · rintro f k S1 hk1 ⟨i1, i2⟩
      refine Or.inr ⟨sU S1 k0 k (S k1 k), ⟨fun i j hi => by rw [sU_n (by omega)]; exact i1 i j hi, fun j hj => ?_⟩, ?_⟩
      · by_cases hh : j = k
        · rw [hh, sU_s]
        · rw [sU_n (by omega)]; exact i2 j (by omega)
      · show fX12_copyTo_b2 N (fX12_copyTo_h2 N f) k0 k1 (nI k) S1 = _
        unfold fX12_copyTo_b2
        rw [h0, if_neg (show ¬ Int32.ofNat n ≤ nI k from nI_ge hk1 (by omega))]
        unfold fX12_copyTo_b8
        rw [h0, h1, chk_t (inb_t hk1 (by omega)), chk_t (inb_t hk1 (by omega)), nI_clamp (by omega), i1 k1 k (by omega), nI_1]
        rfl
  obtain ⟨⟨v, S'⟩, r1, r2, r3⟩ := main
  dsimp only at r2 r3
  subst r2
  exact ⟨S', r1, r3⟩
section
variable {N k0 k1 : Nat} {S : gS}
/-- the class's states copied -/
theorem x_copy7 (hk : k0 + 4 < k1 ∨ k1 + 4 < k0) (hN : 700 < N) : ∃ S', fX7_copy N k0 k1 S = some (0, S') ∧ (∀ i j, ¬ (k0 ≤ i ∧ i ≤ k0 + 4) → S' i j = S i j) ∧ (∀ j, j ≤ 1 → S' k0 j = S k1 j) ∧ ∀ g, g < 6 → S' (k0 + 1) g = S (k1 + 1) g ∧ S' (k0 + 2) g = S (k1 + 2) g ∧ S' (k0 + 3) g = S (k1 + 3) g ∧ S' (k0 + 4) g = S (k1 + 4) g := by
  obtain ⟨S0, e0⟩ : ∃ z, z = sU (sU S k0 0 (S k1 0)) k0 1 (S k1 1) := ⟨_, rfl⟩
  have main : Gv (fX7_copy_h18 N N k0 k1 0 S0) (fun r => r.1 = 0 ∧ (∀ i j, ¬ (k0 ≤ i ∧ i ≤ k0 + 4) → r.2 i j = S i j) ∧ (∀ j, j ≤ 1 → r.2 k0 j = S k1 j) ∧ ∀ g, g < 6 → r.2 (k0 + 1) g = S (k1 + 1) g ∧ r.2 (k0 + 2) g = S (k1 + 2) g ∧ r.2 (k0 + 3) g = S (k1 + 3) g ∧ r.2 (k0 + 4) g = S (k1 + 4) g) := by
    refine loopG (A := gS) (fun f g S => fX7_copy_h18 N f k0 k1 (nI g) S) (fun g S' => (∀ i j, ¬ (k0 ≤ i ∧ i ≤ k0 + 4) → S' i j = S i j) ∧ (∀ j, j ≤ 1 → S' k0 j = S k1 j) ∧ ∀ g', g' < g → S' (k0 + 1) g' = S (k1 + 1) g' ∧ S' (k0 + 2) g' = S (k1 + 2) g' ∧ S' (k0 + 3) g' = S (k1 + 3) g' ∧ S' (k0 + 4) g' = S (k1 + 4) g') _ 6 ?_ ?_ 6 0 S0 N (by omega) ⟨fun i j hij => by rw [e0, sU_n (by omega), sU_n (by omega)], fun j hj => ?_, fun g' hg' => by omega⟩ (by omega)
    · rintro f S1 ⟨i1, i2, i3⟩
      exact ⟨(0, S1), rfl, rfl, i1, i2, i3⟩
    · rintro f g S1 hg ⟨i1, i2, i3⟩
      refine Or.inr ?_
      have hgc : (nI g).toNatClampNeg = g := nI_clamp (by omega)
      have hin : inb (nI g) 6 = true := inb_t hg (by decide)
      obtain ⟨A1, f1⟩ : ∃ z, z = sU S1 (k0 + 1) g (S (k1 + 1) g) := ⟨_, rfl⟩
      obtain ⟨A2, f2⟩ : ∃ z, z = sU A1 (k0 + 2) g (S (k1 + 2) g) := ⟨_, rfl⟩
      obtain ⟨A3, f3⟩ : ∃ z, z = sU A2 (k0 + 3) g (S (k1 + 3) g) := ⟨_, rfl⟩
      obtain ⟨A4, f4⟩ : ∃ z, z = sU A3 (k0 + 4) g (S (k1 + 4) g) := ⟨_, rfl⟩
      have s4 : ∀ i j, ¬ (k0 + 1 ≤ i ∧ i ≤ k0 + 4 ∧ j = g) → A4 i j = S1 i j := fun i j hij => by rw [f4, sU_n (by omega), f3, sU_n (by omega), f2, sU_n (by omega), f1, sU_n (by omega)]
      refine ⟨A4, ⟨fun i j hij => by rw [s4 i j (by omega)]; exact i1 i j hij, fun j hj => by rw [s4 k0 j (by omega)]; exact i2 j hj, fun g' hg' => ?_⟩, ?_⟩
      · by_cases hh : g' = g
        · subst hh
          refine ⟨?_, ?_, ?_, ?_⟩
          · rw [f4, sU_n (by omega), f3, sU_n (by omega), f2, sU_n (by omega), f1, sU_s]
          · rw [f4, sU_n (by omega), f3, sU_n (by omega), f2, sU_s]
          · rw [f4, sU_n (by omega), f3, sU_s]
          · rw [f4, sU_s]
        · rw [s4 (k0 + 1) g' (by omega), s4 (k0 + 2) g' (by omega), s4 (k0 + 3) g' (by omega), s4 (k0 + 4) g' (by omega)]
          exact i3 g' (by omega)
      · show fX7_copy_b18 N (fX7_copy_h18 N f) k0 k1 (nI g) S1 = _
        unfold fX7_copy_b18
        rw [if_neg (show ¬ (6 : Int32) ≤ nI g from nI_ge (b := 6) hg (by decide))]
        unfold fX7_copy_b24
        dsimp only [lt]
        rw [hgc, chk_t hin, chk_t hin, i1 (k1 + 1) g (by omega), ← f1, chk_t hin, chk_t hin, show A1 (k1 + 2) g = S (k1 + 2) g by rw [f1, sU_n (by omega)]; exact i1 _ _ (by omega), ← f2, chk_t hin, chk_t hin, show A2 (k1 + 3) g = S (k1 + 3) g by rw [f2, sU_n (by omega), f1, sU_n (by omega)]; exact i1 _ _ (by omega), ← f3, chk_t hin, chk_t hin, show A3 (k1 + 4) g = S (k1 + 4) g by rw [f3, sU_n (by omega), f2, sU_n (by omega), f1, sU_n (by omega)]; exact i1 _ _ (by omega), ← f4, nI_1]
    · rcases (show j = 0 ∨ j = 1 by omega) with rfl | rfl
      · rw [e0, sU_n (by omega), sU_s]
      · rw [e0, sU_s]
  obtain ⟨⟨v, S'⟩, r1, r2, r3⟩ := main
  dsimp only at r2 r3
  subst r2
  refine ⟨S', ?_, r3⟩
  unfold fX7_copy fX7_copy_b0
  dsimp only [lt]
  rw [sU_n (i := k1) (by omega), ← e0]
  exact r1
theorem x_copy5 (hk : k0 + 3 < k1 ∨ k1 + 3 < k0) (hN : 700 < N) : ∃ S', fX5_copy N k0 k1 S = some (0, S') ∧ (∀ i j, ¬ (k0 ≤ i ∧ i ≤ k0 + 3) → S' i j = S i j) ∧ S' k0 3 = S k1 3 ∧ ∀ g, g < 8 → S' (k0 + 1) g = S (k1 + 1) g ∧ S' (k0 + 2) g = S (k1 + 2) g ∧ S' (k0 + 3) g = S (k1 + 3) g := by
  obtain ⟨S0, e0⟩ : ∃ z, z = sU S k0 3 (S k1 3) := ⟨_, rfl⟩
  have main : Gv (fX5_copy_h10 N N k0 k1 0 S0) (fun r => r.1 = 0 ∧ (∀ i j, ¬ (k0 ≤ i ∧ i ≤ k0 + 3) → r.2 i j = S i j) ∧ r.2 k0 3 = S k1 3 ∧ ∀ g, g < 8 → r.2 (k0 + 1) g = S (k1 + 1) g ∧ r.2 (k0 + 2) g = S (k1 + 2) g ∧ r.2 (k0 + 3) g = S (k1 + 3) g) := by
    refine loopG (A := gS) (fun f g S => fX5_copy_h10 N f k0 k1 (nI g) S) (fun g S' => (∀ i j, ¬ (k0 ≤ i ∧ i ≤ k0 + 3) → S' i j = S i j) ∧ S' k0 3 = S k1 3 ∧ ∀ g', g' < g → S' (k0 + 1) g' = S (k1 + 1) g' ∧ S' (k0 + 2) g' = S (k1 + 2) g' ∧ S' (k0 + 3) g' = S (k1 + 3) g') _ 8 ?_ ?_ 8 0 S0 N (by omega) ⟨fun i j hij => by rw [e0, sU_n (by omega)], by rw [e0, sU_s], fun g' hg' => by omega⟩ (by omega)
    · rintro f S1 ⟨i1, i2, i3⟩
      exact ⟨(0, S1), rfl, rfl, i1, i2, i3⟩
    · rintro f g S1 hg ⟨i1, i2, i3⟩
      refine Or.inr ?_
      have hgc : (nI g).toNatClampNeg = g := nI_clamp (by omega)
      have hin : inb (nI g) 8 = true := inb_t hg (by decide)
      obtain ⟨A1, f1⟩ : ∃ z, z = sU S1 (k0 + 1) g (S (k1 + 1) g) := ⟨_, rfl⟩
      obtain ⟨A2, f2⟩ : ∃ z, z = sU A1 (k0 + 2) g (S (k1 + 2) g) := ⟨_, rfl⟩
      obtain ⟨A3, f3⟩ : ∃ z, z = sU A2 (k0 + 3) g (S (k1 + 3) g) := ⟨_, rfl⟩
      have s4 : ∀ i j, ¬ (k0 + 1 ≤ i ∧ i ≤ k0 + 3 ∧ j = g) → A3 i j = S1 i j := fun i j hij => by rw [f3, sU_n (by omega), f2, sU_n (by omega), f1, sU_n (by omega)]
      refine ⟨A3, ⟨fun i j hij => by rw [s4 i j (by omega)]; exact i1 i j hij, by rw [s4 k0 3 (by omega)]; exact i2, fun g' hg' => ?_⟩, ?_⟩
      · by_cases hh : g' = g
        · subst hh
          refine ⟨?_, ?_, ?_⟩
          · rw [f3, sU_n (by omega), f2, sU_n (by omega), f1, sU_s]
          · rw [f3, sU_n (by omega), f2, sU_s]
          · rw [f3, sU_s]
        · rw [s4 (k0 + 1) g' (by omega), s4 (k0 + 2) g' (by omega), s4 (k0 + 3) g' (by omega)]
          exact i3 g' (by omega)
      · show fX5_copy_b10 N (fX5_copy_h10 N f) k0 k1 (nI g) S1 = _
        unfold fX5_copy_b10
        rw [if_neg (show ¬ (8 : Int32) ≤ nI g from nI_ge (b := 8) hg (by decide))]
        unfold fX5_copy_b16
        dsimp only [lt]
        rw [hgc, chk_t hin, chk_t hin, i1 (k1 + 1) g (by omega), ← f1, chk_t hin, chk_t hin, show A1 (k1 + 2) g = S (k1 + 2) g by rw [f1, sU_n (by omega)]; exact i1 _ _ (by omega), ← f2, chk_t hin, chk_t hin, show A2 (k1 + 3) g = S (k1 + 3) g by rw [f2, sU_n (by omega), f1, sU_n (by omega)]; exact i1 _ _ (by omega), ← f3, nI_1]
  obtain ⟨⟨v, S'⟩, r1, r2, r3⟩ := main
  dsimp only at r2 r3
  subst r2
  refine ⟨S', ?_, r3⟩
  unfold fX5_copy fX5_copy_b0
  dsimp only [lt]
  rw [← e0]
  exact r1
/-- all of a book -/
theorem x_copy1 (hk : k0 + 12 < k1 ∨ k1 + 12 < k0) (hN : 700 < N) : ∃ S', fX1_copy N k0 k1 S = some (0, S') ∧ (∀ i j, ¬ (k0 + 1 ≤ i ∧ i ≤ k0 + 12) → S' i j = S i j) ∧ (∀ c g, (c = 0 → g ≤ 1) → c ≤ 4 → g < 6 → S' (k0 + 1 + c) g = S (k1 + 1 + c) g) ∧ S' (k0 + 6) 1 = S (k1 + 6) 1 ∧ (∀ j, j < 1040 → S' (k0 + 7) j = S (k1 + 7) j) ∧ S' (k0 + 8) 3 = S (k1 + 8) 3 ∧ (∀ i, i < 8 → S' (k0 + 9) i = S (k1 + 9) i ∧ S' (k0 + 10) i = S (k1 + 10) i ∧ S' (k0 + 11) i = S (k1 + 11) i) ∧ ∀ i, i < 3 → S' (k0 + 12) i = S (k1 + 12) i := by
  obtain ⟨S1, a1, a2, a3, a4⟩ := x_copy7 (N := N) (k0 := k0 + 1) (k1 := k1 + 1) (S := S) (by omega) hN
  obtain ⟨S2, e2⟩ : ∃ z, z = sC (sU S1 (k0 + 6) 1 (S1 (k1 + 6) 1)) (k1 + 6 + 1) (k0 + 6 + 1) 0 0 1040 := ⟨_, rfl⟩
  have b1 : fX0_copy N (k0 + 6) (k1 + 6) S1 = some (0, S2) := by
    unfold fX0_copy fX0_copy_b0
    dsimp only [lt]
    rw [chk_t (by decide), e2]
    rfl
  have b2 : ∀ i j, i ≠ k0 + 7 → ¬ (i = k0 + 6 ∧ j = 1) → S2 i j = S1 i j := fun i j h1 h2 => by
    rw [e2]
    show (if i = k0 + 6 + 1 then _ else sU S1 (k0 + 6) 1 (S1 (k1 + 6) 1) i) j = _
    rw [if_neg (by omega), sU_n (by omega)]
  have b3 : S2 (k0 + 6) 1 = S (k1 + 6) 1 := by
    rw [e2]
    show (if k0 + 6 = k0 + 6 + 1 then _ else sU S1 (k0 + 6) 1 (S1 (k1 + 6) 1) (k0 + 6)) 1 = _
    rw [if_neg (by omega), sU_s, a2 _ _ (by omega)]
  have b4 : ∀ j, j < 1040 → S2 (k0 + 7) j = S (k1 + 7) j := fun j hj => by
    rw [e2]
    show (if k0 + 7 = k0 + 6 + 1 then va_cpy (sU S1 (k0 + 6) 1 (S1 (k1 + 6) 1) (k1 + 6 + 1)) (sU S1 (k0 + 6) 1 (S1 (k1 + 6) 1) (k0 + 6 + 1)) 0 0 1040 else _) j = _
    rw [if_pos rfl, pk_cpy_in (by omega) (by omega), sU_n (by omega), Nat.sub_zero, Nat.zero_add, a2 _ _ (by omega)]
  obtain ⟨S3, c1, c2, c3, c4⟩ := x_copy5 (N := N) (k0 := k0 + 8) (k1 := k1 + 8) (S := S2) (by omega) hN
  have back : ∀ i j, ¬ (k0 + 1 ≤ i ∧ i ≤ k0 + 12) → S3 i j = S i j := fun i j h => by rw [c2 i j (by omega), b2 i j (by omega) (by omega), a2 i j (by omega)]
  have main : Gv (fX1_copy_h35 N N k0 k1 0 S3) (fun r => r.1 = 0 ∧ (∀ i j, i ≠ k0 + 12 → r.2 i j = S3 i j) ∧ ∀ i, i < 3 → r.2 (k0 + 12) i = S (k1 + 12) i) := by
    refine loopG (A := gS) (fun f g S => fX1_copy_h35 N f k0 k1 (nI g) S) (fun g S' => (∀ i j, i ≠ k0 + 12 → S' i j = S3 i j) ∧ ∀ i, i < g → S' (k0 + 12) i = S (k1 + 12) i) _ 3 ?_ ?_ 3 0 S3 N (by omega) ⟨fun _ _ _ => rfl, fun g' hg' => by omega⟩ (by omega)
    · rintro f A ⟨i1, i2⟩
      exact ⟨(0, A), rfl, rfl, i1, i2⟩
    · rintro f g A hg ⟨i1, i2⟩
      refine Or.inr ⟨sU A (k0 + 12) g (S (k1 + 12) g), ⟨fun i j hi => by rw [sU_n (by omega)]; exact i1 i j hi, fun i hi => ?_⟩, ?_⟩
      · by_cases hh : i = g
        · rw [hh, sU_s]
        · rw [sU_n (by omega)]; exact i2 i (by omega)
      · show fX1_copy_b35 N (fX1_copy_h35 N f) k0 k1 (nI g) A = _
        unfold fX1_copy_b35
        rw [if_neg (show ¬ (3 : Int32) ≤ nI g from nI_ge (b := 3) hg (by decide))]
        unfold fX1_copy_b40
        rw [chk_t (inb_t hg (by decide)), chk_t (inb_t hg (by decide)), nI_clamp (by omega), i1 (k1 + 12) g (by omega), back (k1 + 12) g (by omega), nI_1]
        rfl
  obtain ⟨⟨v, S'⟩, r1, r2, r3, r4⟩ := main
  dsimp only at r2 r3 r4
  subst r2
  refine ⟨S', ?_, fun i j h => by rw [r3 i j (by omega)]; exact back i j h, fun c g h1 h2 h3 => ?_, ?_, fun j hj => ?_, ?_, fun i hi => ?_, r4⟩
  · unfold fX1_copy fX1_copy_b0
    rw [bnd_t a1]
    dsimp only
    rw [bnd_t b1]
    dsimp only
    rw [bnd_t c1]
    exact r1
  · rw [r3 _ _ (by omega), c2 _ _ (by omega), b2 _ _ (by omega) (by omega)]
    rcases (show c = 0 ∨ c = 1 ∨ c = 2 ∨ c = 3 ∨ c = 4 by omega) with rfl | rfl | rfl | rfl | rfl
    · exact a3 g (h1 rfl)
    · exact (a4 g h3).1
    · exact (a4 g h3).2.1
    · exact (a4 g h3).2.2.1
    · exact (a4 g h3).2.2.2
  · rw [r3 _ _ (by omega), c2 _ _ (by omega)]; exact b3
  · rw [r3 _ _ (by omega), c2 _ _ (by omega)]; exact b4 j hj
  · rw [r3 _ _ (by omega)]
    refine c3.trans ?_
    rw [b2 _ _ (by omega) (by omega), a2 _ _ (by omega)]
  · obtain ⟨q1, q2, q3⟩ := c4 i hi
    rw [r3 _ _ (by omega), r3 _ _ (by omega), r3 _ _ (by omega)]
    refine ⟨q1.trans ?_, q2.trans ?_, q3.trans ?_⟩
    · rw [b2 _ _ (by omega) (by omega), a2 _ _ (by omega)]
    · rw [b2 _ _ (by omega) (by omega), a2 _ _ (by omega)]
    · rw [b2 _ _ (by omega) (by omega), a2 _ _ (by omega)]
end
end
