/-! port's ends -/
section
variable {B : Nat → Nat} {n U : Nat}
theorem jTown.fr {n0 n1 T : Nat} {SX SM SX' SM' : gS} (h : jTown n0 n1 T SX SM) (x : ∀ i j, T ≤ i → i < T + 16 → SX' i j = SX i j) (m5 : ∀ j, j < 6 → SM' 5 j = SM 5 j) (m : ∀ i j, i = 6 ∨ i = 7 ∨ i = 8 ∨ i = 9 ∨ i = 14 → j < 8 → SM' i j = SM i j) (mr : ∀ i j, i = 15 ∨ i = 16 → j < 700 → SM' i j = SM i j) (m8 : ∀ j, SM' 18 j = SM 18 j) : jTown n0 n1 T SX' SM' := by
  obtain ⟨⟨a1, a2, a3⟩, ⟨b1, b2, b3⟩, ⟨w, w1, w2, w3, w4⟩, ⟨b, c1, c2, c3⟩, d, g, ⟨p, p1, p2, p3, p4, p5⟩, ⟨q, q1, q2, q3, q4, q5⟩⟩ := h
  refine ⟨⟨by rw [x _ _ (by omega) (by omega)]; exact a1, by rw [m5 _ (by omega)]; exact a2, a3⟩, ⟨by rw [x _ _ (by omega) (by omega)]; exact b1, by rw [m5 _ (by omega)]; exact b2, b3⟩, ⟨w, w1, by rw [x _ _ (by omega) (by omega)]; exact w2, by rw [m5 _ (by omega)]; exact w3, fun i hi => ?_⟩, ⟨b, c1, by rw [x _ _ (by omega) (by omega)]; exact c2, by rw [m5 _ (by omega)]; exact c3⟩, fun k hk => ?_, fun k hk => ?_, ⟨p, p1, by rw [x _ _ (by omega) (by omega)]; exact p2, by rw [m5 _ (by omega)]; exact p3, fun i hi => ?_, ?_⟩, ⟨q, q1, by rw [x _ _ (by omega) (by omega)]; exact q2, by rw [m5 _ (by omega)]; exact q3, fun i hi => ?_, ?_⟩⟩
  · rw [x (T + 9) i (by omega) (by omega), m 14 i (by omega) (by omega)]
    exact w4 i hi
  · rw [x (T + 1) k (by omega) (by omega), x (T + 2) k (by omega) (by omega), x (T + 3) k (by omega) (by omega), x (T + 4) k (by omega) (by omega), m 7 k (by omega) (by omega), m 8 k (by omega) (by omega), m 9 k (by omega) (by omega), m 6 k (by omega) (by omega)]
    exact d k hk
  · rw [x (T + 5) k (by omega) (by omega), m8]
    exact g k hk
  · rw [x (T + 10 + 1) i (by omega) (by omega), mr 15 i (by omega) (by omega)]
    exact p4 i hi
  · rw [show SX' (T + 10 + 1) = SX (T + 10 + 1) from funext fun j => x _ j (by omega) (by omega)]
    exact p5
  · rw [x (T + 13 + 1) i (by omega) (by omega), mr 16 i (by omega) (by omega)]
    exact q4 i hi
  · rw [show SX' (T + 13 + 1) = SX (T + 13 + 1) from funext fun j => x _ j (by omega) (by omega)]
    exact q5
theorem tw_dr {S : gS} (h : S 0 7 = S 1 1) : (xtw S = 72 ∧ xdr S = 4) ∨ (xtw S = 4 ∧ xdr S = 72) := by
  unfold xtw xdr
  rw [h]
  by_cases q : S 1 1 = 0
  · rw [if_pos q, if_pos q]
    exact Or.inl ⟨rfl, rfl⟩
  · rw [if_neg q, if_neg q]
    exact Or.inr ⟨rfl, rfl⟩
/-- behind a FAULT, or not: what JJ has of old -/
theorem JJ.frP {SX SM S3 M3 : gS} (hJ : JJ SX SM) (hU : xdr SX = U) (X : ∀ i j, xNu i j = false → ¬ (U ≤ i ∧ i < U + 16) ∨ ((i = U + 10 ∨ i = U + 13) ∧ j = 2) → ¬ (i = 2 ∧ (j = 1 ∨ j = 2)) → S3 i j = SX i j) (M : ∀ i j, mNu i j = false → ¬ mBig i j → ¬ (i = 99 ∧ (j = 4 ∨ j = 20 ∨ j = 22 ∨ j = 29)) → M3 i j = SM i j) (h2 : S3 2 1 = 0) (m2 : M3 99 20 = 0) (h1 : S3 1 3 = M3 99 29) : JJ S3 M3 := by
  obtain ⟨n0, n1, t1, t2, t3, t4, t5⟩ := hJ
  obtain ⟨u1, u2, ⟨u3, u4⟩, u5, u6, u7, u8⟩ := t5
  have hTU := tw_dr u3
  rw [hU] at hTU
  have e7 : S3 0 7 = SX 0 7 := X 0 7 rfl (by omega) (by omega)
  have e11 : S3 1 1 = SX 1 1 := X 1 1 rfl (by omega) (by omega)
  have ht : xtw S3 = xtw SX := by
    unfold xtw
    rw [e7]
  have X2 : ∀ i, 20 ≤ i → i ≤ 46 → S3 i = SX i := fun i z1 z2 => funext fun j => X i j (xNu_u (by omega) (by omega)) (by omega) (by omega)
  have M2 : ∀ i, i = 36 ∨ i = 48 ∨ i = 49 ∨ i = 50 ∨ i = 17 ∨ i = 18 ∨ (60 ≤ i ∧ i ≤ 65) ∨ (32 ≤ i ∧ i ≤ 35) → M3 i = SM i := fun i z => funext fun j => M i j (mNu_u (by omega)) (by unfold mBig; omega) (by omega)
  have M9 : ∀ j, mNu 99 j = false → ¬ (j = 3 ∨ j = 30 ∨ j = 31) → ¬ (j = 4 ∨ j = 20 ∨ j = 22 ∨ j = 29) → M3 99 j = SM 99 j := fun j z1 z2 z3 => M 99 j z1 (by unfold mBig; omega) (by omega)
  refine ⟨n0, n1, ?_, ?_, ?_, ⟨0, by omega, h2, m2, fun i z => absurd z (by omega)⟩, h1, ?_, ⟨?_, ?_⟩, ?_, ?_, ?_, ?_⟩
  · rw [ht]
    exact t1.fr (fun i j z1 z2 => X i j (xNu_u (by omega) (by omega)) (by omega) (by omega)) (fun j z => M 5 j rfl (by unfold mBig; omega) (by omega)) (fun i j z1 z2 => M i j (mNu_u (by omega)) (by unfold mBig; omega) (by omega)) (fun i j z1 z2 => M i j (mNu_u (by omega)) (by unfold mBig; omega) (by omega)) (fun j => by rw [M2 18 (by omega)])
  · refine jBook.on t2 (fun i z1 z2 => X2 _ (by omega) (by omega)) (fun c g z1 z2 => ?_) (M9 39 rfl (by omega) (by omega)) (M9 40 rfl (by omega) (by omega)) (M2 _ (by omega)) (M2 _ (by omega)) (M2 _ (by omega)) (M2 _ (by omega)) (M2 _ (by omega))
    unfold mSt
    by_cases h0 : c = 0
    · rw [if_pos h0, if_pos h0]
      rcases (show g = 0 ∨ g = 1 by have := z1 h0; omega) with rfl | rfl
      · exact M9 37 rfl (by omega) (by omega)
      · exact M9 38 rfl (by omega) (by omega)
    · rw [if_neg h0, if_neg h0, M2 (31 + c) (by omega)]
  · rw [X 0 8 rfl (by omega) (by omega), M9 57 rfl (by omega) (by omega)]
    rcases t3 with t3 | ⟨t3, t6, t7⟩
    · exact Or.inl t3
    · refine Or.inr ⟨t3, t6, jBook.on t7 (fun i z1 z2 => X2 _ (by omega) (by omega)) (fun c g z1 z2 => ?_) (M9 58 rfl (by omega) (by omega)) (M9 59 rfl (by omega) (by omega)) (M2 _ (by omega)) (M2 _ (by omega)) (M2 _ (by omega)) (M2 _ (by omega)) (M2 _ (by omega))⟩
      unfold mAc
      rw [M2 60 (by omega)]
  · exact (M9 41 rfl (by omega) (by omega)).trans u2
  · rw [e7, e11]; exact u3
  · rw [e7]; exact u4
  · exact (X 14 2 (xNu_u (by omega) (by omega)) (by omega) (by omega)).trans u5
  · exact (X 17 2 (xNu_u (by omega) (by omega)) (by omega) (by omega)).trans u6
  · exact (X 82 2 (xNu_u (by omega) (by omega)) (by omega) (by omega)).trans u7
  · exact (X 85 2 (xNu_u (by omega) (by omega)) (by omega) (by omega)).trans u8
/-- the class's towns change places, and all begins -/
theorem x_begins {S : gS} {g1 : Nat} (h5 : S U 5 = nI g1) (h6 : g1 ≤ 6) (hT : U = 72 ∨ U = 4) : ∃ S', fX1_begin 5000 20 U S = some (0, S') ∧ (∀ i j, ¬ (21 ≤ i ∧ i ≤ 25) → ¬ (i = 26 ∧ j = 1) → ¬ (i = 28 ∧ j = 3) → S' i j = S i j) ∧ S' 21 0 = 0 ∧ S' 21 1 = 0 ∧ S' 26 1 = 0 ∧ S' 28 3 = 0 ∧ ∀ g, g < g1 → S' 22 g = S (U + 6) g ∧ S' 23 g = S (U + 7) g ∧ S' 24 g = 0 ∧ S' 25 g = S (U + 8) g := by
  have main : Gv (fX7_begin_h12 5000 5000 21 U 0 (sU (sU S 21 0 0) 21 1 0)) (fun r => r.1 = 0 ∧ (∀ i j, ¬ (21 ≤ i ∧ i ≤ 25) → r.2 i j = S i j) ∧ r.2 21 0 = 0 ∧ r.2 21 1 = 0 ∧ ∀ g, g < g1 → r.2 22 g = S (U + 6) g ∧ r.2 23 g = S (U + 7) g ∧ r.2 24 g = 0 ∧ r.2 25 g = S (U + 8) g) := by
    refine loopG (A := gS) (fun f k S' => fX7_begin_h12 5000 f 21 U (nI k) S') (fun k S' => (∀ i j, ¬ (21 ≤ i ∧ i ≤ 25) → S' i j = S i j) ∧ S' 21 0 = 0 ∧ S' 21 1 = 0 ∧ ∀ g, g < k → S' 22 g = S (U + 6) g ∧ S' 23 g = S (U + 7) g ∧ S' 24 g = 0 ∧ S' 25 g = S (U + 8) g) _ g1 ?_ ?_ g1 0 (sU (sU S 21 0 0) 21 1 0) 5000 (by omega) ⟨fun i j z => by rw [sU_n (by omega), sU_n (by omega)], by rw [sU_n (by omega), sU_s], sU_s, fun g z => absurd z (by omega)⟩ (by omega)
    · rintro f S1 ⟨i1, i2, i3, i4⟩
      refine ⟨(0, S1), ?_, rfl, i1, i2, i3, i4⟩
      show fX7_begin_b12 5000 (fX7_begin_h12 5000 f) 21 U (nI g1) S1 = _
      unfold fX7_begin_b12
      rw [i1 U 5 (by omega), h5, if_pos (nI_le (Nat.le_refl _) (by omega))]
      rfl
    · rintro f k S1 hk ⟨i1, i2, i3, i4⟩
      obtain ⟨S2, hS2⟩ : ∃ z, z = sU (sU (sU (sU S1 22 k (S (U + 6) k)) 23 k (S (U + 7) k)) 24 k 0) 25 k (S (U + 8) k) := ⟨_, rfl⟩
      refine Or.inr ⟨S2, ⟨fun i j z => ?_, ?_, ?_, fun g hg => ?_⟩, ?_⟩
      · rw [hS2, sU_n (by omega), sU_n (by omega), sU_n (by omega), sU_n (by omega)]
        exact i1 i j z
      · rw [hS2, sU_n (by omega), sU_n (by omega), sU_n (by omega), sU_n (by omega)]
        exact i2
      · rw [hS2, sU_n (by omega), sU_n (by omega), sU_n (by omega), sU_n (by omega)]
        exact i3
      · by_cases e : g = k
        · subst e
          refine ⟨?_, ?_, ?_, ?_⟩
          · rw [hS2, sU_n (by omega), sU_n (by omega), sU_n (by omega), sU_s]
          · rw [hS2, sU_n (by omega), sU_n (by omega), sU_s]
          · rw [hS2, sU_n (by omega), sU_s]
          · rw [hS2, sU_s]
        · have k9 : ∀ i, S2 i g = S1 i g := fun i => by rw [hS2, sU_n (by omega), sU_n (by omega), sU_n (by omega), sU_n (by omega)]
          rw [k9, k9, k9, k9]
          exact i4 g (by omega)
      · show fX7_begin_b12 5000 (fX7_begin_h12 5000 f) 21 U (nI k) S1 = fX7_begin_h12 5000 f 21 U (nI (k + 1)) S2
        unfold fX7_begin_b12
        rw [i1 U 5 (by omega), h5, if_neg (nI_ge hk (by omega))]
        unfold fX7_begin_b20
        dsimp only [lt]
        have ik : inb (nI k) 6 = true := inb_t (by omega) (by decide)
        rw [chk_t ik, chk_t ik, chk_t ik, chk_t ik, chk_t ik, chk_t ik, chk_t ik, nI_clamp (by omega), nI_1 k]
        rw [i1 (U + 6) k (by omega), show sU S1 (21 + 1) k (S (U + 6) k) (U + 7) k = S (U + 7) k by rw [sU_n (by omega)]; exact i1 _ _ (by omega)]
        rw [show sU (sU (sU S1 (21 + 1) k (S (U + 6) k)) (21 + 2) k (S (U + 7) k)) (21 + 3) k 0 (U + 8) k = S (U + 8) k by rw [sU_n (by omega), sU_n (by omega), sU_n (by omega)]; exact i1 _ _ (by omega)]
        rw [hS2]
  obtain ⟨⟨v, S1⟩, r1, r2, r3, r4, r5, r6⟩ := main
  dsimp only at r2 r3 r4 r5 r6
  subst r2
  refine ⟨sU (sU S1 26 1 0) 28 3 0, ?_, fun i j z1 z2 z3 => by rw [sU_n z3, sU_n z2]; exact r3 i j z1, by rw [sU_n (by omega), sU_n (by omega)]; exact r4, by rw [sU_n (by omega), sU_n (by omega)]; exact r5, by rw [sU_n (by omega), sU_s], sU_s, fun g hg => ?_⟩
  · unfold fX1_begin fX1_begin_b0
    have e7 : fX7_begin 5000 (20 + 1) U S = some (0, S1) := by
      unfold fX7_begin fX7_begin_b0
      exact r1
    rw [bnd_t e7]
    rfl
  · rw [sU_n (by omega), sU_n (by omega), sU_n (by omega), sU_n (by omega), sU_n (by omega), sU_n (by omega), sU_n (by omega), sU_n (by omega)]
    exact r6 g hg
/-- a half row is taken over -/
theorem m_half {k h : Nat} {SM : gS} (hm : mN k = 2 * h) (h7 : h ≤ 700) (he : Int32.ofNat (mN k) / 2 = nI h) : ∃ SM', fX12_takeHalf 5000 k SM = some (0, SM') ∧ (∀ i j, ¬ (i = k ∧ j < h) → SM' i j = SM i j) ∧ ∀ j, j < h → SM' k j = SM k (h + j) := by
  have main : Gv (fX12_takeHalf_h2 5000 5000 k 0 SM) (fun r => r.1 = 0 ∧ (∀ i j, ¬ (i = k ∧ j < h) → r.2 i j = SM i j) ∧ ∀ j, j < h → r.2 k j = SM k (h + j)) := by
    refine loopG (A := gS) (fun f t S' => fX12_takeHalf_h2 5000 f k (nI t) S') (fun t S' => (∀ i j, ¬ (i = k ∧ j < t) → S' i j = SM i j) ∧ ∀ j, j < t → S' k j = SM k (h + j)) _ h ?_ ?_ h 0 SM 5000 (by omega) ⟨fun _ _ _ => rfl, fun j z => absurd z (by omega)⟩ (by omega)
    · rintro f S1 ⟨i1, i2⟩
      refine ⟨(0, S1), ?_, rfl, i1, i2⟩
      show fX12_takeHalf_b2 5000 (fX12_takeHalf_h2 5000 f) k (nI h) S1 = _
      unfold fX12_takeHalf_b2
      rw [he, if_pos (nI_le (Nat.le_refl _) (by omega))]
      rfl
    · rintro f t S1 ht ⟨i1, i2⟩
      refine Or.inr ⟨sU S1 k t (SM k (h + t)), ⟨fun i j z => by rw [sU_n (by omega)]; exact i1 i j (by omega), fun j hj => ?_⟩, ?_⟩
      · by_cases e : j = t
        · subst e
          exact sU_s
        · rw [sU_n (by omega)]
          exact i2 j (by omega)
      · show fX12_takeHalf_b2 5000 (fX12_takeHalf_h2 5000 f) k (nI t) S1 = fX12_takeHalf_h2 5000 f k (nI (t + 1)) _
        unfold fX12_takeHalf_b2
        rw [he, if_neg (nI_ge ht (by omega))]
        unfold fX12_takeHalf_b10
        dsimp only [lt]
        rw [he, nI_add, chk_t (inb_t (by omega) (by omega)), chk_t (inb_t (by omega) (by omega)), nI_clamp (by omega), nI_clamp (by omega), i1 k (h + t) (by omega), nI_1 t]
  obtain ⟨⟨v, S1⟩, r1, r2, r3, r4⟩ := main
  dsimp only at r2 r3 r4
  subst r2
  refine ⟨S1, ?_, r3, r4⟩
  unfold fX12_takeHalf fX12_takeHalf_b0
  exact r1
def tkn (m : Nat) (SM A : gS) : Prop := (∀ i j, ¬ (5 ≤ i ∧ i < m ∧ j < mN i / 2) → A i j = SM i j) ∧ ∀ i j, 5 ≤ i → i < m → j < mN i / 2 → A i j = SM i (mN i / 2 + j)
theorem mN_h : ∀ m, m < 17 → 5 ≤ m → mN m = 2 * (mN m / 2) ∧ mN m / 2 ≤ 700 ∧ Int32.ofNat (mN m) / 2 = nI (mN m / 2) := by decide +kernel
theorem tkn.next {m : Nat} {SM A : gS} (h5 : 5 ≤ m) (h16 : m < 17) (h : tkn m SM A) : ∃ A', fX12_takeHalf 5000 m A = some (0, A') ∧ tkn (m + 1) SM A' := by
  obtain ⟨e1, e2, e3⟩ := mN_h m h16 h5
  obtain ⟨A', a1, a2, a3⟩ := m_half (SM := A) e1 e2 e3
  refine ⟨A', a1, fun i j z => ?_, fun i j z1 z2 z3 => ?_⟩
  · rw [a2 i j (fun ⟨y1, y2⟩ => z ⟨by omega, by omega, by rw [y1]; exact y2⟩)]
    exact h.1 i j (fun ⟨y1, y2, y3⟩ => z ⟨y1, by omega, y3⟩)
  · by_cases e : i = m
    · subst e
      rw [a3 j z3]
      exact h.1 _ _ (by omega)
    · rw [a2 i j (by omega)]
      exact h.2 i j z1 (by omega) z3
end
