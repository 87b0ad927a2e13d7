/-! part 9798.ends -/
section
/-! port's ends -/
section
variable {B : Nat → Nat} {n U : Nat}
theorem jTown.fr {n0 n1 T : Nat} {SX SM SX' SM' : gS} (h : jTown n0 n1 T SX SM) (x : ∀ i j, T ≤ i → i < T + 16 → SX' i j = SX i j) (m5 : ∀ j, j < 6 → SM' 5 j = SM 5 j) (m : ∀ i j, i = 6 ∨ i = 7 ∨ i = 8 ∨ i = 9 ∨ i = 14 → j < 8 → SM' i j = SM i j) (mr : ∀ i j, i = 15 ∨ i = 16 → j < 700 → SM' i j = SM i j) (m8 : ∀ j, SM' 18 j = SM 18 j) : jTown n0 n1 T SX' SM' := by
  obtain ⟨⟨a1, a2, a3⟩, ⟨b1, b2, b3⟩, ⟨w, w1, w2, w3, w4⟩, ⟨b, c1, c2, c3⟩, d, g, ⟨p, p1, p2, p3, p4, p5⟩, ⟨q, q1, q2, q3, q4, q5⟩⟩ := h
  refine ⟨⟨by rw [x _ _ (by omega) (by omega)]; exact a1, by rw [m5 _ (by omega)]; exact a2, a3⟩, ⟨by rw [x _ _ (by omega) (by omega)]; exact b1, by rw [m5 _ (by omega)]; exact b2, b3⟩, ⟨w, w1, by rw [x _ _ (by omega) (by omega)]; exact w2, by rw [m5 _ (by omega)]; exact w3, fun i hi => ?_⟩, ⟨b, c1, by rw [x _ _ (by omega) (by omega)]; exact c2, by rw [m5 _ (by omega)]; exact c3⟩, fun k hk => ?_, fun k hk => ?_, ⟨p, p1, by rw [x _ _ (by omega) (by omega)]; exact p2, by rw [m5 _ (by omega)]; exact p3, fun i hi => ?_, ?_⟩, ⟨q, q1, by rw [x _ _ (by omega) (by omega)]; exact q2, by rw [m5 _ (by omega)]; exact q3, fun i hi => ?_, ?_⟩⟩
  · rw [x (T + 9) i (by omega) (by omega), m 14 i (by omega) (by omega)]
    exact w4 i hi
  · rw [x (T + 1) k (by omega) (by omega), x (T + 2) k (by omega) (by omega), x (T + 3) k (by omega) (by omega), x (T + 4) k (by omega) (by omega), m 7 k (by omega) (by omega), m 8 k (by omega) (by omega), m 9 k (by omega) (by omega), m 6 k (by omega) (by omega)]
    exact d k hk
  · rw [x (T + 5) k (by omega) (by omega), m8]
    exact g k hk
  · rw [x (T + 10 + 1) i (by omega) (by omega), mr 15 i (by omega) (by omega)]
    exact p4 i hi
  · rw [show SX' (T + 10 + 1) = SX (T + 10 + 1) from funext fun j => x _ j (by omega) (by omega)]
    exact p5
  · rw [x (T + 13 + 1) i (by omega) (by omega), mr 16 i (by omega) (by omega)]
    exact q4 i hi
  · rw [show SX' (T + 13 + 1) = SX (T + 13 + 1) from funext fun j => x _ j (by omega) (by omega)]
    exact q5
theorem tw_dr {S : gS} (h : S 0 7 = S 1 1) : (xtw S = 72 ∧ xdr S = 4) ∨ (xtw S = 4 ∧ xdr S = 72) := by
  unfold xtw xdr
  rw [h]
  by_cases q : S 1 1 = 0
  · rw [if_pos q, if_pos q]
    exact Or.inl ⟨rfl, rfl⟩
  · rw [if_neg q, if_neg q]
    exact Or.inr ⟨rfl, rfl⟩
/-- behind a FAULT, or not: what JJ has of old -/
theorem JJ.frP {SX SM S3 M3 : gS} (hJ : JJ SX SM) (hU : xdr SX = U) (X : ∀ i j, xNu i j = false → ¬ (U ≤ i ∧ i < U + 16) ∨ ((i = U + 10 ∨ i = U + 13) ∧ j = 2) → ¬ (i = 2 ∧ (j = 1 ∨ j = 2)) → S3 i j = SX i j) (M : ∀ i j, mNu i j = false → ¬ mBig i j → ¬ (i = 99 ∧ (j = 4 ∨ j = 20 ∨ j = 22 ∨ j = 29)) → M3 i j = SM i j) (h2 : S3 2 1 = 0) (m2 : M3 99 20 = 0) (h1 : S3 1 3 = M3 99 29) : JJ S3 M3 := by
  obtain ⟨n0, n1, t1, t2, t3, t4, t5⟩ := hJ
  obtain ⟨u1, u2, ⟨u3, u4⟩, u5, u6, u7, u8⟩ := t5
  have hTU := tw_dr u3
  rw [hU] at hTU
  have e7 : S3 0 7 = SX 0 7 := X 0 7 rfl (by omega) (by omega)
  have e11 : S3 1 1 = SX 1 1 := X 1 1 rfl (by omega) (by omega)
  have ht : xtw S3 = xtw SX := by
    unfold xtw
    rw [e7]
  have X2 : ∀ i, 20 ≤ i → i ≤ 46 → S3 i = SX i := fun i z1 z2 => funext fun j => X i j (xNu_u (by omega) (by omega)) (by omega) (by omega)
  have M2 : ∀ i, i = 36 ∨ i = 48 ∨ i = 49 ∨ i = 50 ∨ i = 17 ∨ i = 18 ∨ (60 ≤ i ∧ i ≤ 65) ∨ (32 ≤ i ∧ i ≤ 35) → M3 i = SM i := fun i z => funext fun j => M i j (mNu_u (by omega)) (by unfold mBig; omega) (by omega)
  have M9 : ∀ j, mNu 99 j = false → ¬ (j = 3 ∨ j = 30 ∨ j = 31) → ¬ (j = 4 ∨ j = 20 ∨ j = 22 ∨ j = 29) → M3 99 j = SM 99 j := fun j z1 z2 z3 => M 99 j z1 (by unfold mBig; omega) (by omega)
  refine ⟨n0, n1, ?_, ?_, ?_, ⟨0, by omega, h2, m2, fun i z => absurd z (by omega)⟩, h1, ?_, ⟨?_, ?_⟩, ?_, ?_, ?_, ?_⟩
  · rw [ht]
    exact t1.fr (fun i j z1 z2 => X i j (xNu_u (by omega) (by omega)) (by omega) (by omega)) (fun j z => M 5 j rfl (by unfold mBig; omega) (by omega)) (fun i j z1 z2 => M i j (mNu_u (by omega)) (by unfold mBig; omega) (by omega)) (fun i j z1 z2 => M i j (mNu_u (by omega)) (by unfold mBig; omega) (by omega)) (fun j => by rw [M2 18 (by omega)])
  · refine jBook.on t2 (fun i z1 z2 => X2 _ (by omega) (by omega)) (fun c g z1 z2 => ?_) (M9 39 rfl (by omega) (by omega)) (M9 40 rfl (by omega) (by omega)) (M2 _ (by omega)) (M2 _ (by omega)) (M2 _ (by omega)) (M2 _ (by omega)) (M2 _ (by omega))
    unfold mSt
    by_cases h0 : c = 0
    · rw [if_pos h0, if_pos h0]
      rcases (show g = 0 ∨ g = 1 by have := z1 h0; omega) with rfl | rfl
      · exact M9 37 rfl (by omega) (by omega)
      · exact M9 38 rfl (by omega) (by omega)
    · rw [if_neg h0, if_neg h0, M2 (31 + c) (by omega)]
  · rw [X 0 8 rfl (by omega) (by omega), M9 57 rfl (by omega) (by omega)]
    rcases t3 with t3 | ⟨t3, t6, t7⟩
    · exact Or.inl t3
    · refine Or.inr ⟨t3, t6, jBook.on t7 (fun i z1 z2 => X2 _ (by omega) (by omega)) (fun c g z1 z2 => ?_) (M9 58 rfl (by omega) (by omega)) (M9 59 rfl (by omega) (by omega)) (M2 _ (by omega)) (M2 _ (by omega)) (M2 _ (by omega)) (M2 _ (by omega)) (M2 _ (by omega))⟩
      unfold mAc
      rw [M2 60 (by omega)]
  · exact (M9 41 rfl (by omega) (by omega)).trans u2
  · rw [e7, e11]; exact u3
  · rw [e7]; exact u4
  · exact (X 14 2 (xNu_u (by omega) (by omega)) (by omega) (by omega)).trans u5
  · exact (X 17 2 (xNu_u (by omega) (by omega)) (by omega) (by omega)).trans u6
  · exact (X 82 2 (xNu_u (by omega) (by omega)) (by omega) (by omega)).trans u7
  · exact (X 85 2 (xNu_u (by omega) (by omega)) (by omega) (by omega)).trans u8
/-- the class's towns change places, and all begins -/
theorem x_begins {S : gS} {g1 : Nat} (h5 : S U 5 = nI g1) (h6 : g1 ≤ 6) (hT : U = 72 ∨ U = 4) : ∃ S', fX1_begin 5000 20 U S = some (0, S') ∧ (∀ i j, ¬ (21 ≤ i ∧ i ≤ 25) → ¬ (i = 26 ∧ j = 1) → ¬ (i = 28 ∧ j = 3) → S' i j = S i j) ∧ S' 21 0 = 0 ∧ S' 21 1 = 0 ∧ S' 26 1 = 0 ∧ S' 28 3 = 0 ∧ ∀ g, g < g1 → S' 22 g = S (U + 6) g ∧ S' 23 g = S (U + 7) g ∧ S' 24 g = 0 ∧ S' 25 g = S (U + 8) g := by
  have main : Gv (fX7_begin_h12 5000 5000 21 U 0 (sU (sU S 21 0 0) 21 1 0)) (fun r => r.1 = 0 ∧ (∀ i j, ¬ (21 ≤ i ∧ i ≤ 25) → r.2 i j = S i j) ∧ r.2 21 0 = 0 ∧ r.2 21 1 = 0 ∧ ∀ g, g < g1 → r.2 22 g = S (U + 6) g ∧ r.2 23 g = S (U + 7) g ∧ r.2 24 g = 0 ∧ r.2 25 g = S (U + 8) g) := by
    refine loopG (A := gS) (fun f k S' => fX7_begin_h12 5000 f 21 U (nI k) S') (fun k S' => (∀ i j, ¬ (21 ≤ i ∧ i ≤ 25) → S' i j = S i j) ∧ S' 21 0 = 0 ∧ S' 21 1 = 0 ∧ ∀ g, g < k → S' 22 g = S (U + 6) g ∧ S' 23 g = S (U + 7) g ∧ S' 24 g = 0 ∧ S' 25 g = S (U + 8) g) _ g1 ?_ ?_ g1 0 (sU (sU S 21 0 0) 21 1 0) 5000 (by omega) ⟨fun i j z => by rw [sU_n (by omega), sU_n (by omega)], by rw [sU_n (by omega), sU_s], sU_s, fun g z => absurd z (by omega)⟩ (by omega)
    · rintro f S1 ⟨i1, i2, i3, i4⟩
      refine ⟨(0, S1), ?_, rfl, i1, i2, i3, i4⟩
      show fX7_begin_b12 5000 (fX7_begin_h12 5000 f) 21 U (nI g1) S1 = _
      unfold fX7_begin_b12
      rw [i1 U 5 (by omega), h5, if_pos (nI_le (Nat.le_refl _) (by omega))]
      rfl
    · rintro f k S1 hk ⟨i1, i2, i3, i4⟩
      obtain ⟨S2, hS2⟩ : ∃ z, z = sU (sU (sU (sU S1 22 k (S (U + 6) k)) 23 k (S (U + 7) k)) 24 k 0) 25 k (S (U + 8) k) := ⟨_, rfl⟩
      refine Or.inr ⟨S2, ⟨fun i j z => ?_, ?_, ?_, fun g hg => ?_⟩, ?_⟩
      · rw [hS2, sU_n (by omega), sU_n (by omega), sU_n (by omega), sU_n (by omega)]
        exact i1 i j z
      · rw [hS2, sU_n (by omega), sU_n (by omega), sU_n (by omega), sU_n (by omega)]
        exact i2
      · rw [hS2, sU_n (by omega), sU_n (by omega), sU_n (by omega), sU_n (by omega)]
        exact i3
      · by_cases e : g = k
        · subst e
          refine ⟨?_, ?_, ?_, ?_⟩
          · rw [hS2, sU_n (by omega), sU_n (by omega), sU_n (by omega), sU_s]
          · rw [hS2, sU_n (by omega), sU_n (by omega), sU_s]
          · rw [hS2, sU_n (by omega), sU_s]
          · rw [hS2, sU_s]
        · have k9 : ∀ i, S2 i g = S1 i g := fun i => by rw [hS2, sU_n (by omega), sU_n (by omega), sU_n (by omega), sU_n (by omega)]
          rw [k9, k9, k9, k9]
          exact i4 g (by omega)
      · show fX7_begin_b12 5000 (fX7_begin_h12 5000 f) 21 U (nI k) S1 = fX7_begin_h12 5000 f 21 U (nI (k + 1)) S2
        unfold fX7_begin_b12
        rw [i1 U 5 (by omega), h5, if_neg (nI_ge hk (by omega))]
        unfold fX7_begin_b20
        dsimp only [lt]
        have ik : inb (nI k) 6 = true := inb_t (by omega) (by decide)
        rw [chk_t ik, chk_t ik, chk_t ik, chk_t ik, chk_t ik, chk_t ik, chk_t ik, nI_clamp (by omega), nI_1 k]
        rw [i1 (U + 6) k (by omega), show sU S1 (21 + 1) k (S (U + 6) k) (U + 7) k = S (U + 7) k by rw [sU_n (by omega)]; exact i1 _ _ (by omega)]
        rw [show sU (sU (sU S1 (21 + 1) k (S (U + 6) k)) (21 + 2) k (S (U + 7) k)) (21 + 3) k 0 (U + 8) k = S (U + 8) k by rw [sU_n (by omega), sU_n (by omega), sU_n (by omega)]; exact i1 _ _ (by omega)]
        rw [hS2]
  obtain ⟨⟨v, S1⟩, r1, r2, r3, r4, r5, r6⟩ := main
  dsimp only at r2 r3 r4 r5 r6
  subst r2
  refine ⟨sU (sU S1 26 1 0) 28 3 0, ?_, fun i j z1 z2 z3 => by rw [sU_n z3, sU_n z2]; exact r3 i j z1, by rw [sU_n (by omega), sU_n (by omega)]; exact r4, by rw [sU_n (by omega), sU_n (by omega)]; exact r5, by rw [sU_n (by omega), sU_s], sU_s, fun g hg => ?_⟩
  · unfold fX1_begin fX1_begin_b0
    have e7 : fX7_begin 5000 (20 + 1) U S = some (0, S1) := by
      unfold fX7_begin fX7_begin_b0
      exact r1
    rw [bnd_t e7]
    rfl
  · rw [sU_n (by omega), sU_n (by omega), sU_n (by omega), sU_n (by omega), sU_n (by omega), sU_n (by omega), sU_n (by omega), sU_n (by omega)]
    exact r6 g hg
/-- a half row is taken over -/
theorem m_half {k h : Nat} {SM : gS} (hm : mN k = 2 * h) (h7 : h ≤ 700) (he : Int32.ofNat (mN k) / 2 = nI h) : ∃ SM', fX12_takeHalf 5000 k SM = some (0, SM') ∧ (∀ i j, ¬ (i = k ∧ j < h) → SM' i j = SM i j) ∧ ∀ j, j < h → SM' k j = SM k (h + j) := by
  have main : Gv (fX12_takeHalf_h2 5000 5000 k 0 SM) (fun r => r.1 = 0 ∧ (∀ i j, ¬ (i = k ∧ j < h) → r.2 i j = SM i j) ∧ ∀ j, j < h → r.2 k j = SM k (h + j)) := by
    refine loopG (A := gS) (fun f t S' => fX12_takeHalf_h2 5000 f k (nI t) S') (fun t S' => (∀ i j, ¬ (i = k ∧ j < t) → S' i j = SM i j) ∧ ∀ j, j < t → S' k j = SM k (h + j)) _ h ?_ ?_ h 0 SM 5000 (by omega) ⟨fun _ _ _ => rfl, fun j z => absurd z (by omega)⟩ (by omega)
    · rintro f S1 ⟨i1, i2⟩
      refine ⟨(0, S1), ?_, rfl, i1, i2⟩
      show fX12_takeHalf_b2 5000 (fX12_takeHalf_h2 5000 f) k (nI h) S1 = _
      unfold fX12_takeHalf_b2
      rw [he, if_pos (nI_le (Nat.le_refl _) (by omega))]
      rfl
    · rintro f t S1 ht ⟨i1, i2⟩
      refine Or.inr ⟨sU S1 k t (SM k (h + t)), ⟨fun i j z => by rw [sU_n (by omega)]; exact i1 i j (by omega), fun j hj => ?_⟩, ?_⟩
      · by_cases e : j = t
        · subst e
          exact sU_s
        · rw [sU_n (by omega)]
          exact i2 j (by omega)
      · show fX12_takeHalf_b2 5000 (fX12_takeHalf_h2 5000 f) k (nI t) S1 = fX12_takeHalf_h2 5000 f k (nI (t + 1)) _
        unfold fX12_takeHalf_b2
        rw [he, if_neg (nI_ge ht (by omega))]
        unfold fX12_takeHalf_b10
        dsimp only [lt]
        rw [he, nI_add, chk_t (inb_t (by omega) (by omega)), chk_t (inb_t (by omega) (by omega)), nI_clamp (by omega), nI_clamp (by omega), i1 k (h + t) (by omega), nI_1 t]
  obtain ⟨⟨v, S1⟩, r1, r2, r3, r4⟩ := main
  dsimp only at r2 r3 r4
  subst r2
  refine ⟨S1, ?_, r3, r4⟩
  unfold fX12_takeHalf fX12_takeHalf_b0
  exact r1
def tkn (m : Nat) (SM A : gS) : Prop := (∀ i j, ¬ (5 ≤ i ∧ i < m ∧ j < mN i / 2) → A i j = SM i j) ∧ ∀ i j, 5 ≤ i → i < m → j < mN i / 2 → A i j = SM i (mN i / 2 + j)
theorem mN_h : ∀ m, m < 17 → 5 ≤ m → mN m = 2 * (mN m / 2) ∧ mN m / 2 ≤ 700 ∧ Int32.ofNat (mN m) / 2 = nI (mN m / 2) := by decide +kernel
theorem tkn.next {m : Nat} {SM A : gS} (h5 : 5 ≤ m) (h16 : m < 17) (h : tkn m SM A) : ∃ A', fX12_takeHalf 5000 m A = some (0, A') ∧ tkn (m + 1) SM A' := by
  obtain ⟨e1, e2, e3⟩ := mN_h m h16 h5
  obtain ⟨A', a1, a2, a3⟩ := m_half (SM := A) e1 e2 e3
  refine ⟨A', a1, fun i j z => ?_, fun i j z1 z2 z3 => ?_⟩
  · rw [a2 i j (fun ⟨y1, y2⟩ => z ⟨by omega, by omega, by rw [y1]; exact y2⟩)]
    exact h.1 i j (fun ⟨y1, y2, y3⟩ => z ⟨y1, by omega, y3⟩)
  · by_cases e : i = m
    · subst e
      rw [a3 j z3]
      exact h.1 _ _ (by omega)
    · rw [a2 i j (by omega)]
      exact h.2 i j z1 (by omega) z3
end
end

/-! part 9799.port -/
section
section
variable {B : Nat → Nat} {n U : Nat}
theorem m_takes {SM : gS} {n1 : Nat} (h57 : SM 5 7 = nI n1) (h6 : n1 ≤ 6) : ∃ M', fX12_takeOver 5000 SM = some (0, M') ∧ (∀ i j, ¬ (5 ≤ i ∧ i ≤ 16) → ¬ (i = 18 ∨ (32 ≤ i ∧ i ≤ 35)) → ¬ (i = 99 ∧ (j = 37 ∨ j = 38 ∨ j = 39 ∨ j = 40 ∨ j = 57)) → M' i j = SM i j) ∧ (∀ i j, 5 ≤ i → i ≤ 16 → j < mN i / 2 → M' i j = SM i (mN i / 2 + j)) ∧ (∀ g, g < n1 → M' 18 g = SM 10 (6 + g) ∧ M' 32 g = SM 11 (6 + g) ∧ M' 33 g = SM 12 (6 + g) ∧ M' 34 g = 0 ∧ M' 35 g = SM 13 (6 + g)) ∧ M' 99 37 = 0 ∧ M' 99 38 = 0 ∧ M' 99 39 = 0 ∧ M' 99 40 = 0 ∧ M' 99 57 = 0 := by
  have t5 : tkn 5 SM SM := ⟨fun _ _ _ => rfl, fun i j z1 z2 => absurd z1 (by omega)⟩
  obtain ⟨A5, b5, t6⟩ := t5.next (by omega) (by omega)
  obtain ⟨A6, b6, t7⟩ := t6.next (by omega) (by omega)
  obtain ⟨A7, b7, t8⟩ := t7.next (by omega) (by omega)
  obtain ⟨A8, b8, t9⟩ := t8.next (by omega) (by omega)
  obtain ⟨A9, b9, t10⟩ := t9.next (by omega) (by omega)
  obtain ⟨A10, b10, t11⟩ := t10.next (by omega) (by omega)
  obtain ⟨A11, b11, t12⟩ := t11.next (by omega) (by omega)
  obtain ⟨A12, b12, t13⟩ := t12.next (by omega) (by omega)
  obtain ⟨A13, b13, t14⟩ := t13.next (by omega) (by omega)
  obtain ⟨A14, b14, t15⟩ := t14.next (by omega) (by omega)
  obtain ⟨A15, b15, t16⟩ := t15.next (by omega) (by omega)
  obtain ⟨A16, b16, t17⟩ := t16.next (by omega) (by omega)
  obtain ⟨A, hA⟩ : ∃ z, z = sU (sU A16 99 37 0) 99 38 0 := ⟨_, rfl⟩
  have kA : ∀ i j, ¬ (i = 99 ∧ (j = 37 ∨ j = 38)) → A i j = A16 i j := fun i j z => by rw [hA, sU_n (by omega), sU_n (by omega)]
  have hA5 : A 5 1 = nI n1 := by
    rw [kA 5 1 (by omega), t17.2 5 1 (by omega) (by omega) (by decide)]
    exact h57
  have main : Gv (fX12_takeOver_h96 5000 5000 0 A) (fun r => r.1 = 0 ∧ ∃ S1 : gS, r.2 = sU (sU (sU S1 99 39 0) 99 40 0) 99 57 0 ∧ (∀ a b, ¬ (a = 18 ∨ (32 ≤ a ∧ a ≤ 35)) → S1 a b = A a b) ∧ ∀ t, t < n1 → S1 18 t = A 10 t ∧ S1 32 t = A 11 t ∧ S1 33 t = A 12 t ∧ S1 34 t = 0 ∧ S1 35 t = A 13 t) := by
    refine loopG (A := gS) (fun f k S' => fX12_takeOver_h96 5000 f (nI k) S') (fun k S1 => (∀ a b, ¬ (a = 18 ∨ (32 ≤ a ∧ a ≤ 35)) → S1 a b = A a b) ∧ ∀ t, t < k → t < n1 → S1 18 t = A 10 t ∧ S1 32 t = A 11 t ∧ S1 33 t = A 12 t ∧ S1 34 t = 0 ∧ S1 35 t = A 13 t) _ 6 ?_ ?_ 6 0 A 5000 (by omega) ⟨fun _ _ _ => rfl, fun t z => absurd z (by omega)⟩ (by omega)
    · rintro f S1 ⟨i1, i2⟩
      refine ⟨(0, sU (sU (sU S1 99 39 0) 99 40 0) 99 57 0), ?_, rfl, S1, rfl, i1, fun t z => i2 t (by omega) z⟩
      show fX12_takeOver_b96 5000 (fX12_takeOver_h96 5000 f) (nI 6) S1 = _
      unfold fX12_takeOver_b96
      rw [if_pos (by decide)]
      rfl
    · rintro f g S1 hg ⟨i1, i2⟩
      have i12 : inb (nI g) 12 = true := inb_t (by omega) (by decide)
      have i6 : inb (nI g) 6 = true := inb_t (by omega) (by decide)
      have cg : (nI g).toNatClampNeg = g := nI_clamp (by omega)
      have fin : ∀ (v1 v2 v3 v4 : Int32), (g < n1 → v1 = A 10 g ∧ v2 = A 11 g ∧ v3 = A 12 g ∧ v4 = A 13 g) → (∀ a b, ¬ (a = 18 ∨ (32 ≤ a ∧ a ≤ 35)) → sU (sU (sU (sU (sU S1 18 g v1) 32 g v2) 33 g v3) 34 g 0) 35 g v4 a b = A a b) ∧ ∀ t, t < g + 1 → t < n1 → sU (sU (sU (sU (sU S1 18 g v1) 32 g v2) 33 g v3) 34 g 0) 35 g v4 18 t = A 10 t ∧ sU (sU (sU (sU (sU S1 18 g v1) 32 g v2) 33 g v3) 34 g 0) 35 g v4 32 t = A 11 t ∧ sU (sU (sU (sU (sU S1 18 g v1) 32 g v2) 33 g v3) 34 g 0) 35 g v4 33 t = A 12 t ∧ sU (sU (sU (sU (sU S1 18 g v1) 32 g v2) 33 g v3) 34 g 0) 35 g v4 34 t = 0 ∧ sU (sU (sU (sU (sU S1 18 g v1) 32 g v2) 33 g v3) 34 g 0) 35 g v4 35 t = A 13 t := by
        intro v1 v2 v3 v4 hv
        obtain ⟨S2, hS2⟩ : ∃ z, z = sU (sU (sU (sU (sU S1 18 g v1) 32 g v2) 33 g v3) 34 g 0) 35 g v4 := ⟨_, rfl⟩
        rw [← hS2]
        refine ⟨fun a b z => ?_, fun t z1 z2 => ?_⟩
        · rw [hS2, sU_n (by omega), sU_n (by omega), sU_n (by omega), sU_n (by omega), sU_n (by omega)]
          exact i1 a b z
        · by_cases e : t = g
          · subst e
            obtain ⟨q1, q2, q3, q4⟩ := hv z2
            refine ⟨?_, ?_, ?_, ?_, ?_⟩
            · rw [hS2, sU_n (by omega), sU_n (by omega), sU_n (by omega), sU_n (by omega), sU_s]; exact q1
            · rw [hS2, sU_n (by omega), sU_n (by omega), sU_n (by omega), sU_s]; exact q2
            · rw [hS2, sU_n (by omega), sU_n (by omega), sU_s]; exact q3
            · rw [hS2, sU_n (by omega), sU_s]
            · rw [hS2, sU_s]; exact q4
          · have k9 : ∀ i, S2 i t = S1 i t := fun i => by rw [hS2, sU_n (by omega), sU_n (by omega), sU_n (by omega), sU_n (by omega), sU_n (by omega)]
            rw [k9, k9, k9, k9, k9]
            exact i2 t (by omega) z2
      by_cases hn : g < n1
      · refine Or.inr ⟨_, fin (A 10 g) (A 11 g) (A 12 g) (A 13 g) (fun _ => ⟨rfl, rfl, rfl, rfl⟩), ?_⟩
        show fX12_takeOver_b96 5000 (fX12_takeOver_h96 5000 f) (nI g) S1 = fX12_takeOver_h96 5000 f (nI (g + 1)) _
        unfold fX12_takeOver_b96
        rw [if_neg (show ¬ (6 : Int32) ≤ nI g from nI_ge (b := 6) hg (by decide))]
        unfold fX12_takeOver_b102
        rw [i1 5 1 (by omega), hA5, if_neg (nI_ge hn (by omega))]
        unfold fX12_takeOver_b112 fX12_takeOver_b117
        rw [if_neg (by decide)]
        unfold fX12_takeOver_b127
        rw [chk_t i12, cg, i1 10 g (by omega)]
        unfold fX12_takeOver_b137
        dsimp only [lt]
        rw [chk_t i6, cg, if_neg (by decide)]
        unfold fX12_takeOver_b147
        rw [chk_t i12, cg, show sU S1 18 g (A 10 g) 11 g = A 11 g by rw [sU_n (by omega)]; exact i1 _ _ (by omega)]
        unfold fX12_takeOver_b157
        dsimp only [lt]
        rw [chk_t i6, cg, if_neg (by decide)]
        unfold fX12_takeOver_b167
        rw [chk_t i12, cg, show sU (sU S1 18 g (A 10 g)) 32 g (A 11 g) 12 g = A 12 g by rw [sU_n (by omega), sU_n (by omega)]; exact i1 _ _ (by omega)]
        unfold fX12_takeOver_b177
        dsimp only [lt]
        rw [chk_t i6, chk_t i6, cg, if_neg (by decide)]
        unfold fX12_takeOver_b194
        rw [chk_t i12, cg, show sU (sU (sU (sU S1 18 g (A 10 g)) 32 g (A 11 g)) 33 g (A 12 g)) 34 g 0 13 g = A 13 g by rw [sU_n (by omega), sU_n (by omega), sU_n (by omega), sU_n (by omega)]; exact i1 _ _ (by omega)]
        unfold fX12_takeOver_b204
        dsimp only [lt]
        rw [chk_t i6, cg, nI_1 g]
      · refine Or.inr ⟨_, fin 0 0 0 (-1) (fun z => absurd z hn), ?_⟩
        show fX12_takeOver_b96 5000 (fX12_takeOver_h96 5000 f) (nI g) S1 = fX12_takeOver_h96 5000 f (nI (g + 1)) _
        unfold fX12_takeOver_b96
        rw [if_neg (show ¬ (6 : Int32) ≤ nI g from nI_ge (b := 6) hg (by decide))]
        unfold fX12_takeOver_b102
        rw [i1 5 1 (by omega), hA5, if_pos (nI_le (by omega) (by omega))]
        unfold fX12_takeOver_b116 fX12_takeOver_b117
        rw [if_pos rfl]
        unfold fX12_takeOver_b136 fX12_takeOver_b137
        dsimp only [lt]
        rw [chk_t i6, cg, if_pos rfl]
        unfold fX12_takeOver_b156 fX12_takeOver_b157
        dsimp only [lt]
        rw [chk_t i6, cg, if_pos rfl]
        unfold fX12_takeOver_b176 fX12_takeOver_b177
        dsimp only [lt]
        rw [chk_t i6, chk_t i6, cg, if_pos rfl]
        unfold fX12_takeOver_b203 fX12_takeOver_b204
        dsimp only [lt]
        rw [chk_t i6, cg, nI_1 g]
  obtain ⟨⟨v, M'⟩, r1, r2, S1, r3, r4, r5⟩ := main
  dsimp only at r2 r3
  subst r2
  have k9 : ∀ i j, ¬ (i = 99 ∧ (j = 39 ∨ j = 40 ∨ j = 57)) → M' i j = S1 i j := fun i j z => by rw [r3, sU_n (by omega), sU_n (by omega), sU_n (by omega)]
  have lo : ∀ i j, 5 ≤ i → i ≤ 16 → j < mN i / 2 → A i j = SM i (mN i / 2 + j) := fun i j z1 z2 z3 => by
    rw [kA i j (by omega)]
    exact t17.2 i j z1 (by omega) z3
  refine ⟨M', ?_, fun i j z1 z2 z3 => ?_, fun i j z1 z2 z3 => ?_, fun g hg => ?_, ?_, ?_, ?_, ?_, ?_⟩
  · unfold fX12_takeOver fX12_takeOver_b0
    rw [bnd_t b5]
    dsimp only
    rw [bnd_t b6]
    dsimp only
    rw [bnd_t b7]
    dsimp only
    rw [bnd_t b8]
    dsimp only
    rw [bnd_t b9]
    dsimp only
    rw [bnd_t b10]
    dsimp only
    rw [bnd_t b11]
    dsimp only
    rw [bnd_t b12]
    dsimp only
    rw [bnd_t b13]
    dsimp only
    rw [bnd_t b14]
    dsimp only
    rw [bnd_t b15]
    dsimp only
    rw [bnd_t b16]
    dsimp only [lt]
    rw [← hA]
    exact r1
  · rw [k9 i j (by omega), r4 i j z2, kA i j (by omega)]
    exact t17.1 i j (by omega)
  · rw [k9 i j (by omega), r4 i j (by omega)]
    exact lo i j z1 z2 z3
  · rw [k9 18 g (by omega), k9 32 g (by omega), k9 33 g (by omega), k9 34 g (by omega), k9 35 g (by omega)]
    obtain ⟨q1, q2, q3, q4, q5⟩ := r5 g hg
    exact ⟨q1.trans (lo 10 g (by omega) (by omega) (show g < 6 by omega)), q2.trans (lo 11 g (by omega) (by omega) (show g < 6 by omega)), q3.trans (lo 12 g (by omega) (by omega) (show g < 6 by omega)), q4, q5.trans (lo 13 g (by omega) (by omega) (show g < 6 by omega))⟩
  · rw [k9 99 37 (by omega), r4 99 37 (by omega), hA, sU_n (by omega), sU_s]
  · rw [k9 99 38 (by omega), r4 99 38 (by omega), hA, sU_s]
  · rw [r3, sU_n (by omega), sU_n (by omega), sU_s]
  · rw [r3, sU_n (by omega), sU_s]
  · rw [r3, sU_s]
/-- no FAULT: the draft is the town -/
theorem port_good {SX SM S' SM' : gS} {g0 g1 nw b c1 c2 tk : Nat} (hJ : JJ SX SM) (hU : xdr SX = U) (X : ∀ i j, xNu i j = false → ¬ (U ≤ i ∧ i < U + 16) ∨ ((i = U + 10 ∨ i = U + 13) ∧ j = 2) → ¬ (i = 2 ∧ j = 2) → S' i j = SX i j) (M : ∀ i j, mNu i j = false → ¬ mBig i j → ¬ (i = 99 ∧ (j = 4 ∨ j = 20 ∨ j = 22 ∨ j = 29)) → SM' i j = SM i j) (m4 : SM' 99 4 = 0) (m20 : SM' 99 20 = 0) (m29 : SM' 99 29 = -1) (F : fine S' SM') (D : drK U g0 g1 nw b c1 c2 tk S' SM') : ∃ S9 M9, fX11_port_b63 5000 (sU S' 2 1 0) = some (0, 0, S9) ∧ fX12_port_b116 5000 SM' = some (0, M9) ∧ M9 99 4 = 0 ∧ JJ S9 M9 := by
  obtain ⟨n0, n1, -, t2, -, -, t5⟩ := hJ
  obtain ⟨u1, u2, ⟨u3, u4⟩, u5, u6, u7, u8⟩ := t5
  have hTU := tw_dr u3
  rw [hU] at hTU
  obtain ⟨⟨d1, d2, d3, d4⟩, ⟨e1, e2, e3, e4, e5, -⟩, ⟨w1, w2, w3, w4⟩, ⟨b1, b2, b3⟩, ⟨⟨D1, ⟨p1, p2, p3, p4, p5, p6⟩, p7⟩, p8⟩, ⟨⟨D2, ⟨q1, q2, q3, q4, q5, q6⟩, q7⟩, q8⟩⟩ := D
  obtain ⟨y, hy⟩ : ∃ z : Int32, z = if U = 72 then 0 else 1 := ⟨_, rfl⟩
  obtain ⟨S2, hS2⟩ : ∃ z, z = sU (sU (sU S' 2 1 0) 0 7 y) 1 1 y := ⟨_, rfl⟩
  have k2 : ∀ i j, ¬ (i = 2 ∧ j = 1) → ¬ (i = 0 ∧ j = 7) → ¬ (i = 1 ∧ j = 1) → S2 i j = S' i j := fun i j z1 z2 z3 => by rw [hS2, sU_n z3, sU_n z2, sU_n z1]
  have x07 : S' 0 7 = SX 0 7 := X 0 7 rfl (by omega) (by omega)
  have x11 : S' 1 1 = SX 1 1 := X 1 1 rfl (by omega) (by omega)
  have xt2 : xtw S2 = U := by
    unfold xtw
    rw [hS2, sU_n (by omega), sU_s, hy]
    rcases hTU with ⟨-, z⟩ | ⟨-, z⟩ <;> rw [z] <;> rfl
  obtain ⟨S3, a1, a2, a3, a4, a5, a6, a7⟩ := x_begins (U := U) (S := S2) ((k2 U 5 (by omega) (by omega) (by omega)).trans e1) e3 (by omega)
  obtain ⟨M9, c1', f1, f2, f3, f4, f5, f6, f7, f8⟩ := m_takes e2 e3
  obtain ⟨S9, hS9⟩ : ∃ z, z = sU S3 0 8 0 := ⟨_, rfl⟩
  have k9 : ∀ i j, ¬ (21 ≤ i ∧ i ≤ 25) → ¬ (i = 26 ∧ j = 1) → ¬ (i = 28 ∧ j = 3) → ¬ (i = 0 ∧ (j = 7 ∨ j = 8)) → ¬ (i = 1 ∧ j = 1) → ¬ (i = 2 ∧ j = 1) → S9 i j = S' i j := fun i j z1 z2 z3 z4 z5 z6 => by
    rw [hS9, sU_n (by omega), a2 i j z1 z2 z3, k2 i j z6 (by omega) z5]
  have kU : ∀ i j, U ≤ i → i < U + 16 → S9 i j = S' i j := fun i j z1 z2 => k9 i j (by omega) (by omega) (by omega) (by omega) (by omega) (by omega)
  have kB : ∀ i j, 21 ≤ i → S9 i j = S3 i j := fun i j z => by rw [hS9, sU_n (by omega)]
  have m5 : ∀ j, j < 6 → M9 5 j = SM' 5 (6 + j) := fun j z => f2 5 j (by omega) (by omega) z
  have mk : ∀ i j, i = 6 ∨ i = 7 ∨ i = 8 ∨ i = 9 ∨ i = 14 → j < 8 → M9 i j = SM' i (8 + j) := fun i j z1 z2 => by
    rcases z1 with rfl | rfl | rfl | rfl | rfl <;> exact f2 _ j (by omega) (by omega) z2
  have mr : ∀ i j, i = 15 ∨ i = 16 → j < 700 → M9 i j = SM' i (700 + j) := fun i j z1 z2 => by
    rcases z1 with rfl | rfl <;> exact f2 _ j (by omega) (by omega) z2
  have r99 : ∀ j, ¬ (j = 37 ∨ j = 38 ∨ j = 39 ∨ j = 40 ∨ j = 57) → M9 99 j = SM' 99 j := fun j z => f1 99 j (by omega) (by omega) (by omega)
  have s07 : S9 0 7 = y := by rw [hS9, sU_n (by omega), a2 0 7 (by omega) (by omega) (by omega), hS2, sU_n (by omega), sU_s]
  have s11 : S9 1 1 = y := by rw [hS9, sU_n (by omega), a2 1 1 (by omega) (by omega) (by omega), hS2, sU_s]
  have xt9 : xtw S9 = U := by
    unfold xtw
    rw [s07, hy]
    rcases hTU with ⟨-, z⟩ | ⟨-, z⟩ <;> rw [z] <;> rfl
  refine ⟨S9, M9, ?_, ?_, (r99 4 (by omega)).trans m4, g0, g1, ?_, ?_, Or.inl ⟨by rw [hS9, sU_s], f8⟩, ⟨0, by omega, ?_, ?_, fun i z => absurd z (by omega)⟩, ?_, ?_, ⟨s07.trans s11.symm, ?_⟩, ?_, ?_, ?_, ?_⟩
  · unfold fX11_port_b63
    dsimp only [lt]
    have xd : xdr (sU S' 2 1 0) = U := (xdr_on (by rw [sU_n (by omega)]; exact x11)).trans hU
    have xt : xtw (sU S' 2 1 0) = xtw SX := by
      unfold xtw
      rw [sU_n (by omega), x07]
    rw [xd, xt, ← hy, show (if xtw SX = 4 then (0 : Int32) else 1) = y by
      rw [hy]
      rcases hTU with ⟨z1, z⟩ | ⟨z1, z⟩ <;> rw [z, z1] <;> rfl, ← hS2, xt2, bnd_t a1, hS9]
  · unfold fX12_port_b116
    rw [if_pos F.2]
    unfold fX12_port_b146
    rw [bnd_t c1']
  · rw [xt9]
    refine ⟨⟨by rw [kU _ _ (by omega) (by omega)]; exact d1, (m5 0 (by omega)).trans d2, d3⟩, ⟨by rw [kU _ _ (by omega) (by omega)]; exact e1, (m5 1 (by omega)).trans e2, e3⟩, ⟨nw, w3, by rw [kU _ _ (by omega) (by omega)]; exact w1, (m5 3 (by omega)).trans w2, fun i hi => ?_⟩, ⟨b, b2, by rw [kU _ _ (by omega) (by omega)]; exact b1, (m5 2 (by omega)).trans b3⟩, fun k hk => ?_, fun g hg => ?_, ⟨c1, p3, by rw [kU _ _ (by omega) (by omega)]; exact p1, (m5 4 (by omega)).trans p2, fun i hi => ?_, ?_⟩, ⟨c2, q3, by rw [kU _ _ (by omega) (by omega)]; exact q1, (m5 5 (by omega)).trans q2, fun i hi => ?_, ?_⟩⟩
    · rw [kU (U + 9) i (by omega) (by omega), mk 14 i (by omega) (by omega)]
      exact w4 i hi
    · rw [kU (U + 1) k (by omega) (by omega), kU (U + 2) k (by omega) (by omega), kU (U + 3) k (by omega) (by omega), kU (U + 4) k (by omega) (by omega), mk 7 k (by omega) (by omega), mk 8 k (by omega) (by omega), mk 9 k (by omega) (by omega), mk 6 k (by omega) (by omega)]
      exact d4 k hk
    · rw [kU (U + 5) g (by omega) (by omega), (f3 g hg).1]
      exact (e4 g hg).1
    · rw [kU (U + 10 + 1) i (by omega) (by omega), mr 15 i (by omega) (by omega)]
      exact p4 i hi
    · rw [show S9 (U + 10 + 1) = S' (U + 10 + 1) from funext fun j => kU _ j (by omega) (by omega)]
      exact ⟨p5, by omega⟩
    · rw [kU (U + 13 + 1) i (by omega) (by omega), mr 16 i (by omega) (by omega)]
      exact q4 i hi
    · rw [show S9 (U + 13 + 1) = S' (U + 13 + 1) from funext fun j => kU _ j (by omega) (by omega)]
      exact ⟨q5, by omega⟩
  · have h1 : ∀ g, g < g1 → xSt (20 + 1) S9 1 g = S' (U + 6) g ∧ xSt (20 + 1) S9 2 g = S' (U + 7) g ∧ xSt (20 + 1) S9 3 g = 0 ∧ xSt (20 + 1) S9 4 g = S' (U + 8) g := fun g hg => by
      obtain ⟨z1, z2, z3, z4⟩ := a7 g hg
      refine ⟨(kB 22 g (by omega)).trans (z1.trans (k2 _ _ (by omega) (by omega) (by omega))), (kB 23 g (by omega)).trans (z2.trans (k2 _ _ (by omega) (by omega) (by omega))), (kB 24 g (by omega)).trans z3, (kB 25 g (by omega)).trans (z4.trans (k2 _ _ (by omega) (by omega) (by omega)))⟩
    have h2 : ∀ g, g < g1 → mSt M9 1 g = SM' 11 (6 + g) ∧ mSt M9 2 g = SM' 12 (6 + g) ∧ mSt M9 3 g = 0 ∧ mSt M9 4 g = SM' 13 (6 + g) := fun g hg => ⟨(f3 g hg).2.1, (f3 g hg).2.2.1, (f3 g hg).2.2.2.1, (f3 g hg).2.2.2.2⟩
    refine ⟨⟨⟨0, by omega, (kB 21 0 (by omega)).trans a3, f4⟩, ((kB 21 1 (by omega)).trans a4).trans f5.symm, fun g hg => ?_, fun g hg => ?_, fun g g' hg hg' => ?_⟩, ⟨0, by omega, (kB 26 1 (by omega)).trans a5, f6, fun i z => absurd z (by omega)⟩, ⟨0, by omega, (kB 28 3 (by omega)).trans a6, f7, fun i z => absurd z (by omega)⟩, fun i hi => ?_⟩
    · obtain ⟨-, ⟨x, x1, x2, x3⟩, ⟨z, z1, z2, z3⟩, g8, -⟩ := e4 g hg
      rw [(h1 g hg).1, (h1 g hg).2.1, (h1 g hg).2.2.1, (h1 g hg).2.2.2, (h2 g hg).1, (h2 g hg).2.1, (h2 g hg).2.2.1, (h2 g hg).2.2.2]
      exact ⟨x2.trans x3.symm, z2.trans z3.symm, rfl, g8⟩
    · obtain ⟨-, ⟨x, x1, x2, x3⟩, ⟨z, z1, z2, z3⟩, g8, g9⟩ := e4 g hg
      rw [(h2 g hg).1, (h2 g hg).2.1, (h2 g hg).2.2.1, (h2 g hg).2.2.2, x3, z3, ← g8]
      exact ⟨⟨nI_le (a := 0) (by omega) (by omega), nI_le (b := 99) x1 (by decide)⟩, ⟨nI_le (a := 0) (by omega) (by omega), nI_le (b := 999) z1 (by decide)⟩, ⟨by decide, by decide⟩, g9⟩
    · rw [(h2 g hg).2.2.2, (h2 g' hg').2.2.2, ← (e4 g hg).2.2.2.1, ← (e4 g' hg').2.2.2.1]
      exact e5 g g' hg hg'
    · rw [show S9 (20 + 12) i = S' 32 i from k9 32 i (by omega) (by omega) (by omega) (by omega) (by omega) (by omega), X 32 i (xNu_u (by omega) (by omega)) (by omega) (by omega), f1 17 i (by omega) (by omega) (by omega), M 17 i rfl (by unfold mBig; omega) (by omega)]
      exact t2.2.2.2 i hi
  · rw [hS9, sU_n (by omega), a2 2 1 (by omega) (by omega) (by omega), hS2, sU_n (by omega), sU_n (by omega)]
    exact sU_s
  · exact (r99 20 (by omega)).trans m20
  · rw [k9 1 3 (by omega) (by omega) (by omega) (by omega) (by omega) (by omega), r99 29 (by omega), m29]
    exact F.1.2
  · rw [r99 41 (by omega), M 99 41 rfl (by unfold mBig; omega) (by omega)]
    exact u2
  · rw [s07, hy]
    by_cases z : U = 72
    · exact Or.inl (if_pos z)
    · exact Or.inr (if_neg z)
  · rw [k9 14 2 (by omega) (by omega) (by omega) (by omega) (by omega) (by omega), X 14 2 (xNu_u (by omega) (by omega)) (by omega) (by omega)]
    exact u5
  · rw [k9 17 2 (by omega) (by omega) (by omega) (by omega) (by omega) (by omega), X 17 2 (xNu_u (by omega) (by omega)) (by omega) (by omega)]
    exact u6
  · rw [k9 82 2 (by omega) (by omega) (by omega) (by omega) (by omega) (by omega), X 82 2 (xNu_u (by omega) (by omega)) (by omega) (by omega)]
    exact u7
  · rw [k9 85 2 (by omega) (by omega) (by omega) (by omega) (by omega) (by omega), X 85 2 (xNu_u (by omega) (by omega)) (by omega) (by omega)]
    exact u8
end
theorem st_port : Lw_port JJ := by
  intro SX SM x1 hJ
  have hJ0 := hJ
  obtain ⟨n0, n1, -, -, -, ⟨N0, h7, h21, m20, hby⟩, -, -, ⟨u3, -⟩, u5, u6, u7, u8⟩ := hJ0
  rcases pk_ix x1 (show N0 + 1 < 2 ^ 31 by omega) with h1 | h1 | ⟨n, hn, rfl⟩
  · refine stFl 5000 5000 2 hJ (by decide) (Or.inr rfl) ?_ ?_
    · show fX11_port 5000 x1 SX = _
      unfold fX11_port fX11_port_b0
      rw [if_pos h1]
      rfl
    · show fX12_port 5000 x1 SM = _
      unfold fX12_port fX12_port_b0
      dsimp only [lt]
      rw [if_pos h1]
      rfl
  · have hle : ¬ x1 ≤ nI N0 := fun z => nI_ge (Nat.lt_succ_self N0) (by omega) (Int32.le_trans h1 z)
    have hpos : ¬ x1 < 0 := Int32.not_lt.mpr (Int32.le_trans (show (0 : Int32) ≤ nI (N0 + 1) from nI_le (a := 0) (by omega) (by omega)) h1)
    refine stFl 5000 5000 2 hJ (by decide) (Or.inr rfl) ?_ ?_
    · show fX11_port 5000 x1 SX = _
      unfold fX11_port fX11_port_b0
      rw [if_neg hpos]
      unfold fX11_port_b4
      rw [h21, if_neg hle]
      rfl
    · show fX12_port 5000 x1 SM = _
      unfold fX12_port fX12_port_b0
      dsimp only [lt]
      rw [if_neg hpos]
      unfold fX12_port_b9
      rw [show sU SM 99 4 0 99 20 = nI N0 by rw [sU_n (by omega)]; exact m20, if_neg hle]
      rfl
  · obtain ⟨U, hU⟩ : ∃ z, xdr SX = z := ⟨_, rfl⟩
    have hT := xdr_cases (S := SX)
    rw [hU] at hT
    have hr : SX (U + 10) 2 = 0 ∧ SX (U + 13) 2 = 1 := by
      rcases hT with rfl | rfl
      · exact ⟨u7, u8⟩
      · exact ⟨u5, u6⟩
    obtain ⟨S', SM', r1, r2, X, M, m4, m20', m29, h⟩ := j_read (n := n) (by omega) h7 h21 m20 hby hU hr
    have eX : fX11_port 5000 (nI n) SX = if S' 1 2 = 0 then fX11_port_b63 5000 (sU S' 2 1 0) else fX11_port_b52 5000 (S' 1 2) (sU S' 2 1 0) := by
      unfold fX11_port fX11_port_b0
      rw [if_neg (nI_pos (by omega))]
      unfold fX11_port_b4
      rw [h21, if_pos (nI_le (by omega) (by omega))]
      unfold fX11_port_b28
      rw [bnd_t r1]
      rfl
    rcases h with ⟨F, g0, g1, nw, b, c1, c2, tk, D⟩ | h
    · obtain ⟨S9, M9, a1, a2, a3, a4⟩ := port_good hJ hU X M m4 m20' m29 F D
      refine ⟨5000, (0, 0, S9), 5000, (0, M9), ?_, ?_, Or.inl rfl, a3, fun _ => rfl, a4⟩
      · show fX11_port 5000 (nI n) SX = _
        rw [eX, if_pos F.1.1]
        exact a1
      · exact r2.trans a2
    · have hf := flt_x (N := 5000) h
      obtain ⟨q, q1, q2, q3, q4, q5⟩ := h
      have hne : ¬ S' 1 2 = 0 := by
        rw [q3]
        exact fun z => absurd ((nI_eq (b := 0) (by omega) (by omega)).mp z) (by omega)
      have J3 : JJ (sU S' 2 1 0) (sU SM' 99 29 (SM' 99 28)) := hJ.frP hU (fun i j z1 z2 z3 => by rw [sU_n (by omega)]; exact X i j z1 z2 (by omega)) (fun i j z1 z2 z3 => by rw [sU_n (by omega)]; exact M i j z1 z2 z3) sU_s (by rw [sU_n (by omega)]; exact m20') (by rw [sU_n (by omega), sU_s]; exact q5)
      refine ⟨5000, (0, S' 1 2, sU (sU S' 2 1 0) 32 0 (sU S' 2 1 0 32 0 + 1)), 5000, (SM' 99 27, sU (sU SM' 99 29 (SM' 99 28)) 17 0 (sU SM' 99 29 (SM' 99 28) 17 0 + 1)), ?_, ?_, Or.inl rfl, ?_, fun _ => q3.trans q4.symm, J3.refuse (k := 0) (by decide)⟩
      · show fX11_port 5000 (nI n) SX = _
        rw [eX, if_neg hne]
        unfold fX11_port_b52
        rw [bnd_t (show fX1_refuse 5000 20 0 (sU S' 2 1 0) = _ from x_refuse (k := 0) (by decide))]
      · refine r2.trans ?_
        unfold fX12_port_b116
        rw [if_neg hf.2.1]
        unfold fX12_port_b123
        dsimp only [lt]
        rw [show sU (sU SM' 99 29 (SM' 99 28)) 17 0 (sU SM' 99 29 (SM' 99 28) 17 0 + 1) 99 27 = SM' 99 27 by rw [sU_n (by omega), sU_n (by omega)]]
      · show sU (sU SM' 99 29 (SM' 99 28)) 17 0 (sU SM' 99 29 (SM' 99 28) 17 0 + 1) 99 4 = 0
        rw [sU_n (by omega), sU_n (by omega)]
        exact m4
end
