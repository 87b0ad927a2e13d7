section
variable {B : Nat → Nat} {n s p k N : Nat} {S SM : gS}
/-- the wets, from the second on: i of them are told -/
theorem j_wets {U : Nat} (hU : U = 72 ∨ U = 4) : ∀ (m i f f' : Nat) (S SM : gS) (s p k : Nat), i + m = 8 → m + 1 < f → m + 1 < f' → 1 ≤ i → tkJ B n s p k S SM → fine S SM → xdr S = U → S U 10 = nI i → (∀ q, q < i → ∃ x : Nat, x ≤ 9 ∧ S (U + 9) q = nI x ∧ SM 14 (8 + q) = nI x) → ∃ S' SM', fX3_readWet_h49 5000 f (nI i) S = some (0, S') ∧ fX12_sayWets_h22 5000 f' (nI i) SM = some (0, SM') ∧ (∀ a b, xNu a b = false → ¬ (a = U ∧ b = 10) → a ≠ U + 9 → S' a b = S a b) ∧ (∀ a b, mNu a b = false → ¬ (a = 5 ∧ b = 9) → ¬ (a = 14 ∧ 8 ≤ b) → SM' a b = SM a b) ∧ ∃ s' p' k' c', tkJ B n s' p' k' S' SM' ∧ ((fine S' SM' ∧ s ≤ s' ∧ 1 ≤ c' ∧ c' ≤ 8 ∧ S' U 10 = nI c' ∧ SM' 5 9 = nI c' ∧ ∀ q, q < c' → ∃ x : Nat, x ≤ 9 ∧ S' (U + 9) q = nI x ∧ SM' 14 (8 + q) = nI x) ∨ flt S' SM') := by
  intro m
  have stop : ∀ (i f f' : Nat) (S SM : gS) (s p k : Nat), i ≤ 8 → 1 ≤ i → tkJ B n s p k S SM → fine S SM → S U 10 = nI i → (∀ q, q < i → ∃ x : Nat, x ≤ 9 ∧ S (U + 9) q = nI x ∧ SM 14 (8 + q) = nI x) → k ≠ 2 → ∃ S' SM', fX3_readWet_h49 5000 (f + 1) (nI i) S = some (0, S') ∧ fX12_sayWets_h22 5000 (f' + 1) (nI i) SM = some (0, SM') ∧ (∀ a b, xNu a b = false → ¬ (a = U ∧ b = 10) → a ≠ U + 9 → S' a b = S a b) ∧ (∀ a b, mNu a b = false → ¬ (a = 5 ∧ b = 9) → ¬ (a = 14 ∧ 8 ≤ b) → SM' a b = SM a b) ∧ ∃ s' p' k' c', tkJ B n s' p' k' S' SM' ∧ ((fine S' SM' ∧ s ≤ s' ∧ 1 ≤ c' ∧ c' ≤ 8 ∧ S' U 10 = nI c' ∧ SM' 5 9 = nI c' ∧ ∀ q, q < c' → ∃ x : Nat, x ≤ 9 ∧ S' (U + 9) q = nI x ∧ SM' 14 (8 + q) = nI x) ∨ flt S' SM') := by
    intro i f f' S SM s p k hi h1 T F h10 hq k2
    have hk := T.2.2.2.1
    unfold tkK at hk
    have e4 : ¬ S 2 4 = 2 := by
      rw [T.2.1.2.2.2]
      exact fun z => k2 ((nI_eq (b := 2) (by omega) (by omega)).mp z)
    have m4 : ¬ SM 99 23 = 2 := by
      rw [T.2.2.1.2.2.2.2]
      exact fun z => k2 ((nI_eq (b := 2) (by omega) (by omega)).mp z)
    refine ⟨S, sU SM 5 9 (nI i), ?_, ?_, fun _ _ _ _ _ => rfl, fun a b _ z _ => sU_n z, s, p, k, i, T.on (fun _ => rfl) (fun _ => rfl) (fun j _ _ => sU_n (by omega)) (fun j _ => sU_n (by omega)), Or.inl ⟨⟨F.1, by rw [sU_n (by omega)]; exact F.2⟩, Nat.le_refl _, h1, hi, h10, by rw [sU_ap, if_pos ⟨rfl, rfl⟩], fun q y => by rw [sU_ne (by decide)]; exact hq q y⟩⟩
    · show fX3_readWet_b49 5000 _ (nI i) S = _
      unfold fX3_readWet_b49
      rw [if_neg (show ¬ (8 : Int32) < nI i from nI_nlt (a := 8) (by omega) (by decide))]
      unfold fX3_readWet_b55
      rw [bnd_t (fine_x F)]
      show fX3_readWet_b62 5000 _ (nI i) S = _
      unfold fX3_readWet_b62
      rw [if_neg e4]
      rfl
    · show fX12_sayWets_b22 5000 _ (nI i) SM = _
      unfold fX12_sayWets_b22
      rw [if_pos F.2]
      unfold fX12_sayWets_b29
      rw [if_neg m4]
      rfl
  induction m with
  | zero =>
    intro i f f' S SM s p k hi hf hf' h1 T F hx h10 hq
    obtain ⟨f, rfl⟩ : ∃ y, f = y + 2 := ⟨f - 2, by omega⟩
    obtain ⟨f', rfl⟩ : ∃ y, f' = y + 2 := ⟨f' - 2, by omega⟩
    by_cases k2 : k = 2
    · subst k2
      obtain rfl : i = 8 := by omega
      obtain ⟨S', SM', a1, a2, a3, ⟨o1, o2, s1, p1, k1, T1, -⟩⟩ := j_refuse (q := 2) (G := False) (by decide) T F
      have e4 : S 2 4 = 2 := T.2.1.2.2.2
      have m4 : SM 99 23 = 2 := T.2.2.1.2.2.2.2
      refine ⟨S', SM', ?_, ?_, fun a b z _ _ => o1 a b z, fun a b z _ _ => o2 a b z, s1, p1, k1, 0, T1, Or.inr a3⟩
      · show fX3_readWet_b49 5000 (fX3_readWet_h49 5000 (f + 1)) (nI 8) S = _
        unfold fX3_readWet_b49
        rw [if_neg (by decide)]
        unfold fX3_readWet_b55
        rw [bnd_t (fine_x F)]
        show fX3_readWet_b62 5000 (fX3_readWet_h49 5000 (f + 1)) (nI 8) S = _
        unfold fX3_readWet_b62
        rw [if_pos e4]
        unfold fX3_readWet_b73
        rw [if_pos (by decide)]
        unfold fX3_readWet_b79
        rw [bnd_t (show fX3_refuse 5000 2 S = _ from a1)]
        show fX3_readWet_b49 5000 (fX3_readWet_h49 5000 f) (nI 9) S' = _
        unfold fX3_readWet_b49
        rw [if_pos (by decide)]
        rfl
      · show fX12_sayWets_b22 5000 (fX12_sayWets_h22 5000 (f' + 1)) (nI 8) SM = _
        unfold fX12_sayWets_b22
        rw [if_pos F.2]
        unfold fX12_sayWets_b29
        rw [if_pos m4]
        unfold fX12_sayWets_b37
        rw [if_pos (by decide)]
        unfold fX12_sayWets_b43
        rw [bnd_t (show fX12_wrong 5000 2 SM = _ from a2)]
        show fX12_sayWets_b48 5000 (fX12_sayWets_h22 5000 (f' + 1)) (nI 8) SM' = _
        unfold fX12_sayWets_b48
        rw [bnd_t (show fX12_readNumber 5000 0 9 SM' = _ from (j_num0 (lo := 0) (hi := 9) T1 a3).2)]
        show (if SM' 99 27 = 0 then _ else _) = _
        rw [if_neg (flt_x (N := 5000) a3).2.1]
        rfl
    · exact stop i (f + 1) (f' + 1) S SM s p k (by omega) h1 T F h10 hq k2
  | succ m ih =>
    intro i f f' S SM s p k hi hf hf' h1 T F hx h10 hq
    obtain ⟨f, rfl⟩ : ∃ y, f = y + 2 := ⟨f - 2, by omega⟩
    obtain ⟨f', rfl⟩ : ∃ y, f' = y + 2 := ⟨f' - 2, by omega⟩
    by_cases k2 : k = 2
    · subst k2
      have e4 : S 2 4 = 2 := T.2.1.2.2.2
      have m4 : SM 99 23 = 2 := T.2.2.1.2.2.2.2
      obtain ⟨v, S1, v', SM1, b1, b2, ⟨o1, o2, s2, p2, k2, T2, h⟩, -⟩ := j_num (lo := 0) (hi := 9) (by decide) (by decide) T F
      replace h : hid _ := h
      obtain ⟨S3, hS3⟩ : ∃ z, z = sU (sU S1 (U + 9) i v) U 10 (nI (i + 1)) := ⟨_, rfl⟩
      have fU : xNu U 10 = false := by rcases hU with z | z <;> rw [z] <;> rfl
      have fU9 : ∀ j, xNu (U + 9) j = false := fun j => by rcases hU with z | z <;> rw [z] <;> rfl
      have kx : ∀ a b, ¬ (a = U ∧ b = 10) → ¬ (a = U + 9 ∧ b = i) → S3 a b = S1 a b := fun a b z1 z2 => by rw [hS3, sU_n z1, sU_n z2]
      have ex : fX3_readWet_h49 5000 (f + 2) (nI i) S = fX3_readWet_h49 5000 (f + 1) (nI (i + 1)) S3 := by
        show fX3_readWet_b49 5000 (fX3_readWet_h49 5000 (f + 1)) (nI i) S = _
        unfold fX3_readWet_b49
        rw [if_neg (show ¬ (8 : Int32) < nI i from nI_nlt (a := 8) (by omega) (by decide))]
        unfold fX3_readWet_b55
        rw [bnd_t (fine_x F)]
        show fX3_readWet_b62 5000 (fX3_readWet_h49 5000 (f + 1)) (nI i) S = _
        unfold fX3_readWet_b62
        rw [if_pos e4]
        unfold fX3_readWet_b73
        rw [if_neg (show ¬ nI i = 8 from fun z => absurd ((nI_eq (b := 8) (by omega) (by omega)).mp z) (by omega))]
        unfold fX3_readWet_b87
        dsimp only [lt]
        rw [hx, bnd_t (show fX3_readNumber 5000 0 9 S = _ from b1)]
        dsimp only
        rw [chk_t (inb_t (by omega) (by decide)), nI_clamp (by omega), show xdr (sU S1 (U + 9) i v) = U from (xdr_on (by rw [sU_n (by omega), o1 1 1 rfl])).trans hx, show sU S1 (U + 9) i v U 10 = nI i by rw [sU_n (by omega), o1 U 10 fU]; exact h10, nI_1 i, ← hS3]
        unfold fX3_readWet_b116
        rw [nI_1 i]
      have em : fX12_sayWets_h22 5000 (f' + 2) (nI i) SM = if SM1 99 27 = 0 then fX12_sayWets_b64 5000 (fX12_sayWets_h22 5000 (f' + 1)) (nI i) v' SM1 else fX12_sayWets_b63 5000 SM1 := by
        show fX12_sayWets_b22 5000 (fX12_sayWets_h22 5000 (f' + 1)) (nI i) SM = _
        unfold fX12_sayWets_b22
        rw [if_pos F.2]
        unfold fX12_sayWets_b29
        rw [if_pos m4]
        unfold fX12_sayWets_b37
        rw [if_neg (show ¬ nI i = 8 from fun z => absurd ((nI_eq (b := 8) (by omega) (by omega)).mp z) (by omega))]
        unfold fX12_sayWets_b48
        rw [bnd_t (show fX12_readNumber 5000 0 9 SM = _ from b2)]
      rw [ex, em]
      rcases (show _ ∨ _ from h) with ⟨F2, e2, -, y, y1, y2, y3, y4⟩ | h'
      · rw [if_pos F2.2]
        have e64 : fX12_sayWets_b64 5000 (fX12_sayWets_h22 5000 (f' + 1)) (nI i) v' SM1 = fX12_sayWets_h22 5000 (f' + 1) (nI (i + 1)) (sU SM1 14 (8 + i) v') := by
          unfold fX12_sayWets_b64
          dsimp only [lt]
          rw [show (8 : Int32) = nI 8 from rfl, nI_add, chk_t (inb_t (by omega) (by decide)), nI_clamp (by omega), nI_1 i]
        rw [e64]
        obtain ⟨S', SM', g1, g2, g3, g4, s5, p5, k5, c5, T5, g5⟩ := ih (i + 1) (f + 1) (f' + 1) S3 (sU SM1 14 (8 + i) v') s2 p2 k2 (by omega) (by omega) (by omega) (by omega) (T2.on (fun j => kx 2 j (by omega) (by omega)) (fun j => kx 3 j (by omega) (by omega)) (fun j _ _ => sU_n (by omega)) (fun j _ => sU_n (by omega))) ⟨⟨by rw [kx 1 2 (by omega) (by omega)]; exact F2.1.1, by rw [kx 1 3 (by omega) (by omega)]; exact F2.1.2⟩, by rw [sU_n (by omega)]; exact F2.2⟩ ((xdr_on (by rw [kx 1 1 (by omega) (by omega), o1 1 1 rfl])).trans hx) (by rw [hS3, sU_ap, if_pos ⟨rfl, rfl⟩]) (fun q z => by
          by_cases e : q = i
          · refine ⟨y, y2, ?_, ?_⟩
            · rw [hS3, sU_n (by omega), sU_ap, if_pos ⟨rfl, e⟩]; exact y3
            · rw [sU_ap, if_pos ⟨rfl, by omega⟩]; exact y4
          · rw [kx _ _ (by omega) (by omega), o1 _ _ (fU9 q), sU_n (by omega), o2 14 _ rfl]
            exact hq q (by omega))
        refine ⟨S', SM', g1, g2, fun a b z1 z2 z3 => ?_, fun a b z1 z2 z3 => ?_, s5, p5, k5, c5, T5, ?_⟩
        · rw [g3 a b z1 z2 z3, kx a b z2 (by omega)]; exact o1 a b z1
        · rw [g4 a b z1 z2 z3, sU_n (by omega)]; exact o2 a b z1
        · rcases g5 with ⟨w1, w2, w3⟩ | g5
          · exact Or.inl ⟨w1, by omega, w3⟩
          · exact Or.inr g5
      · rw [if_neg (flt_x (N := 5000) h').2.1]
        have h3 : flt S3 SM1 := by
          obtain ⟨q, q1, q2, q3, q4, q5⟩ := h'
          exact ⟨q, q1, q2, by rw [kx 1 2 (by omega) (by omega)]; exact q3, q4, by rw [kx 1 3 (by omega) (by omega)]; exact q5⟩
        refine ⟨S3, SM1, ?_, rfl, fun a b z1 z2 z3 => ?_, fun a b z1 _ _ => o2 a b z1, s2, p2, k2, 0, T2.on (fun j => kx 2 j (by omega) (by omega)) (fun j => kx 3 j (by omega) (by omega)) (fun _ _ _ => rfl) (fun _ _ => rfl), Or.inr h3⟩
        · show fX3_readWet_b49 5000 _ (nI (i + 1)) S3 = _
          unfold fX3_readWet_b49
          rw [if_neg (show ¬ (8 : Int32) < nI (i + 1) from nI_nlt (a := 8) (by omega) (by decide))]
          unfold fX3_readWet_b55
          rw [bnd_t (flt_x (N := 5000) h3).1]
          rfl
        · rw [kx a b z2 (by omega)]; exact o1 a b z1
    · exact stop i (f + 1) (f' + 1) S SM s p k (by omega) h1 T F h10 hq k2
end
