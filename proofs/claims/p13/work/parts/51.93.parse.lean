section
variable {B : Nat → Nat} {n s p k r w sg c D N a d : Nat} {S SM : gS}
theorem m_which {l L : Nat} (hl : (l = 0 ∧ L = 2) ∨ (l = 1 ∧ L = 6) ∨ (l = 2 ∧ L = 7)) (T : tkJ B n s p k S SM) (F : fine S SM) : fX12_which 5000 l SM = some (owV (fun i => isW B k s p (mS l i)) L, SM) := by
  have hm : mN l = L := by rcases hl with ⟨rfl, rfl⟩ | ⟨rfl, rfl⟩ | ⟨rfl, rfl⟩ <;> rfl
  have hs : ∀ i, i < L → mS l i < 45 := by
    rcases hl with ⟨rfl, rfl⟩ | ⟨rfl, rfl⟩ | ⟨rfl, rfl⟩ <;> decide
  have hL : L ≤ 7 := by omega
  have main : Gv (fX12_which_h2 5000 5000 l 0 SM) (fun q => ansL (fun i => isW B k s p (mS l i)) L q.1 ∧ q.2 = SM) := by
    refine loopG (A := Unit) (fun f i _ => fX12_which_h2 5000 f l (nI i) SM) (fun i _ => ∀ j, j < i → isW B k s p (mS l j) = false) _ L ?_ ?_ L 0 () 5000 (by omega) (fun _ q => absurd q (by omega)) (by omega)
    · rintro f u i1
      refine ⟨(-1, SM), ?_, Or.inr ⟨i1, rfl⟩, rfl⟩
      show fX12_which_b2 5000 _ l (nI L) SM = _
      unfold fX12_which_b2
      rw [hm, if_pos (show Int32.ofNat L ≤ nI L from nI_le (Nat.le_refl _) (by omega))]
      rfl
    · rintro f i u hi i1
      have hF : fX12_which_h2 5000 (f + 1) l (nI i) SM = if iv (isW B k s p (mS l i)) = 0 then fX12_which_h2 5000 f l (nI (i + 1)) SM else some (nI i, SM) := by
        show fX12_which_b2 5000 (fX12_which_h2 5000 f) l (nI i) SM = _
        unfold fX12_which_b2
        rw [hm, if_neg (show ¬ Int32.ofNat L ≤ nI i from nI_ge hi (by omega))]
        unfold fX12_which_b8
        rw [nI_clamp (by omega), hm, chk_t (inb_t hi (by omega)), chk_t (show sI (mS l i) = true from decide_eq_true (hs i hi)), bnd_t (m_is (hs i hi) T F.2)]
        unfold fX12_which_b20
        rw [nI_1 i]
        rfl
      cases hb : isW B k s p (mS l i) with
      | false =>
        refine Or.inr ⟨(), fun j hj => ?_, ?_⟩
        · by_cases e : j = i
          · rw [e]; exact hb
          · exact i1 j (by omega)
        · show fX12_which_h2 5000 (f + 1) l (nI i) SM = _
          rw [hF, hb]
          rfl
      | true =>
        refine Or.inl ⟨(nI i, SM), ?_, Or.inl ⟨i, hi, hb, i1, rfl⟩, rfl⟩
        show fX12_which_h2 5000 (f + 1) l (nI i) SM = _
        rw [hF, hb]
        rfl
  obtain ⟨⟨v, S'⟩, r1, r2, r3⟩ := main
  dsimp only at r2 r3
  subst r3
  unfold fX12_which fX12_which_b0
  rw [r1, owV_an r2]
theorem x_valueCode {l L : Nat} (hl : (l = 1 ∧ L = 6 ∧ S r 2 = 0) ∨ (l = 2 ∧ L = 7 ∧ S r 2 = 1)) (T : tkJ B n s p k S SM) : fX3_valueCode 5000 r S = some ((if owV (fun i => isW B k s p (mS l i)) L = -1 then -1 else 10000 + owV (fun i => isW B k s p (mS l i)) L), S) := by
  have hw : isW B k s p (mS l 0) = isW B k s p 10 ∧ isW B k s p (mS l 1) = isW B k s p 11 ∧ isW B k s p (mS l 2) = isW B k s p 12 ∧ isW B k s p (mS l 3) = isW B k s p 13 ∧ isW B k s p (mS l 4) = isW B k s p 6 ∧ isW B k s p (mS l 5) = isW B k s p 14 := by
    rcases hl with ⟨rfl, -, -⟩ | ⟨rfl, -, -⟩ <;> exact ⟨rfl, rfl, rfl, rfl, rfl, rfl⟩
  obtain ⟨w0, w1, w2, w3, w4, w5⟩ := hw
  have hL : 6 ≤ L := by omega
  have hv : ∀ j, j < L → isW B k s p (mS l j) = true → (∀ i, i < j → isW B k s p (mS l i) = false) → owV (fun i => isW B k s p (mS l i)) L = nI j := fun j a b d => (owV_an (Or.inl ⟨j, a, b, d, rfl⟩)).symm
  unfold fX3_valueCode fX3_valueCode_b0
  rw [bnd_t (x_isAtWord (by decide) T)]
  cases h0 : isW B k s p 10 with
  | true =>
    rw [hv 0 (by omega) (w0.trans h0) (fun i hi => absurd hi (by omega))]
    rfl
  | false =>
  show fX3_valueCode_b16 5000 r S = _
  unfold fX3_valueCode_b16
  rw [bnd_t (x_isAtWord (by decide) T)]
  cases h1 : isW B k s p 11 with
  | true =>
    rw [hv 1 (by omega) (w1.trans h1) (fun i hi => by obtain rfl : i = 0 := by omega
                                                      exact w0.trans h0)]
    rfl
  | false =>
  show fX3_valueCode_b32 5000 r S = _
  unfold fX3_valueCode_b32
  rw [bnd_t (x_isAtWord (by decide) T)]
  cases h2 : isW B k s p 12 with
  | true =>
    rw [hv 2 (by omega) (w2.trans h2) (fun i hi => by
      rcases (show i = 0 ∨ i = 1 by omega) with rfl | rfl
      · exact w0.trans h0
      · exact w1.trans h1)]
    rfl
  | false =>
  show fX3_valueCode_b48 5000 r S = _
  unfold fX3_valueCode_b48
  rw [bnd_t (x_isAtWord (by decide) T)]
  cases h3 : isW B k s p 13 with
  | true =>
    rw [hv 3 (by omega) (w3.trans h3) (fun i hi => by
      rcases (show i = 0 ∨ i = 1 ∨ i = 2 by omega) with rfl | rfl | rfl
      · exact w0.trans h0
      · exact w1.trans h1
      · exact w2.trans h2)]
    rfl
  | false =>
  show fX3_valueCode_b64 5000 r S = _
  unfold fX3_valueCode_b64
  rw [bnd_t (x_isAtWord (by decide) T)]
  cases h4 : isW B k s p 6 with
  | true =>
    rw [hv 4 (by omega) (w4.trans h4) (fun i hi => by
      rcases (show i = 0 ∨ i = 1 ∨ i = 2 ∨ i = 3 by omega) with rfl | rfl | rfl | rfl
      · exact w0.trans h0
      · exact w1.trans h1
      · exact w2.trans h2
      · exact w3.trans h3)]
    rfl
  | false =>
  show fX3_valueCode_b80 5000 r S = _
  unfold fX3_valueCode_b80
  rw [bnd_t (x_isAtWord (by decide) T)]
  have pr : isW B k s p 14 = false → ∀ i, i < 6 → isW B k s p (mS l i) = false := by
    intro h5 i hi
    rcases (show i = 0 ∨ i = 1 ∨ i = 2 ∨ i = 3 ∨ i = 4 ∨ i = 5 by omega) with rfl | rfl | rfl | rfl | rfl | rfl
    · exact w0.trans h0
    · exact w1.trans h1
    · exact w2.trans h2
    · exact w3.trans h3
    · exact w4.trans h4
    · exact w5.trans h5
  cases h5 : isW B k s p 14 with
  | true =>
    rw [hv 5 (by omega) (w5.trans h5) (fun i hi => by
      rcases (show i = 0 ∨ i = 1 ∨ i = 2 ∨ i = 3 ∨ i = 4 by omega) with rfl | rfl | rfl | rfl | rfl
      · exact w0.trans h0
      · exact w1.trans h1
      · exact w2.trans h2
      · exact w3.trans h3
      · exact w4.trans h4)]
    rfl
  | false =>
  show fX3_valueCode_b96 5000 r S = _
  unfold fX3_valueCode_b96
  rcases hl with ⟨rfl, rfl, h⟩ | ⟨rfl, rfl, h⟩
  · rw [if_pos h, show owV (fun i => isW B k s p (mS 1 i)) 6 = -1 from (owV_an (Or.inr ⟨pr h5, rfl⟩)).symm]
    rfl
  · rw [if_neg (by rw [h]; decide)]
    unfold fX3_valueCode_b103
    rw [bnd_t (x_isAtWord (by decide) T)]
    have w6 : isW B k s p (mS 2 6) = isW B k s p 15 := rfl
    cases h6 : isW B k s p 15 with
    | true =>
      rw [hv 6 (by omega) (w6.trans h6) (pr h5)]
      rfl
    | false =>
      rw [show owV (fun i => isW B k s p (mS 2 i)) 7 = -1 from (owV_an (Or.inr ⟨fun i hi => by
        by_cases e : i = 6
        · rw [e]; exact w6.trans h6
        · exact pr h5 i (by omega), rfl⟩)).symm]
      rfl
theorem rlJ.nu {S' SM' : gS} (hK : rlK r w sg S SM) (R : rlJ r w sg c D S SM) (o1 : oSame xNu S S') (o2 : oSame mNu SM SM') : rlJ r w sg c D S' SM' := by
  have hr : r = 14 ∨ r = 17 ∨ r = 82 ∨ r = 85 := hK.1
  have hw : (w = 10 ∧ sg = 15) ∨ (w = 11 ∧ sg = 16) := by
    rcases hK.2 with ⟨a, b, -⟩ | ⟨a, b, -⟩
    · exact Or.inl ⟨a, b⟩
    · exact Or.inr ⟨a, b⟩
  obtain ⟨R1, R2, R3, R4, R5, R6⟩ := R
  have er1 : S' (r + 1) = S (r + 1) := funext fun j => o1 (r + 1) j (by rcases hr with z | z | z | z <;> rw [z] <;> rfl)
  refine ⟨(o1 r 3 (by rcases hr with z | z | z | z <;> rw [z] <;> rfl)).trans R1, ?_, R3, fun i hi => ?_, by rw [er1]; exact R5, by rw [er1]; exact R6⟩
  · rw [o2 5 w rfl]; exact R2
  · rw [er1, o2 sg _ (by rcases hw with ⟨-, z⟩ | ⟨-, z⟩ <;> rw [z] <;> rfl)]; exact R4 i hi
end
