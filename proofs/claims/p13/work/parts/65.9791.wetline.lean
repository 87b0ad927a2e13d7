section
variable {B : Nat → Nat} {n s p k U g0 g1 nw b c1 c2 tk : Nat} {S SM S' SM' S1 SM1 S2 SM2 : gS}
/-- a draft where only the wets have changed -/
theorem dr_wet {nw' : Nat} (hT : U = 72 ∨ U = 4) (hd : drK U g0 g1 nw b c1 c2 tk S SM) (X : ∀ a b, xNu a b = false → ¬ (a = U ∧ b = 10) → a ≠ U + 9 → S' a b = S a b) (M : ∀ a b, mNu a b = false → ¬ (a = 5 ∧ b = 9) → ¬ (a = 14 ∧ 8 ≤ b) → SM' a b = SM a b) (hw : dW U nw' S' SM') : drK U g0 g1 nw' b c1 c2 tk S' SM' := by
  obtain ⟨d1, d2, d3, d4, d5, d6⟩ := hd
  have X' : ∀ a b, U ≤ a → ¬ (a = U ∧ b = 10) → a ≠ U + 9 → S' a b = S a b := fun a b z1 z2 z3 => X a b (xNu_u (by omega) (by omega)) z2 z3
  have M' : ∀ a b, a ≠ 99 → ¬ (a = 5 ∧ b = 9) → a ≠ 14 → SM' a b = SM a b := fun a b z1 z2 z3 => M a b (mNu_u z1) z2 (by omega)
  exact ⟨d1.on (X' _ _ (by omega) (by omega) (by omega)) (fun i j _ _ => X' i j (by omega) (by omega) (by omega)) (M' _ _ (by omega) (by omega) (by omega)) (fun i j _ _ => M' i j (by omega) (by omega) (by omega)), d2.on (X' _ _ (by omega) (by omega) (by omega)) (fun i j _ _ => X' i j (by omega) (by omega) (by omega)) (M' _ _ (by omega) (by omega) (by omega)) (M 99 30 rfl (by omega) (by omega)) (fun i j _ _ => M' i j (by omega) (by omega) (by omega)), hw, d4.on (X' _ _ (by omega) (by omega) (by omega)) (M' _ _ (by omega) (by omega) (by omega)), d5.on (fun i j _ => X' i j (by omega) (by omega) (by omega)) (M' _ _ (by omega) (by omega) (by omega)) (fun j => M' _ j (by omega) (by omega) (by omega)), d6.on (fun i j _ => X' i j (by omega) (by omega) (by omega)) (M' _ _ (by omega) (by omega) (by omega)) (fun j => M' _ j (by omega) (by omega) (by omega))⟩
theorem wetX {v : Int32} (hT : U = 72 ∨ U = 4) (hU : xdr S = U) (h10 : S U 10 = nI 0) (a1 : fX8_advance 5000 S = some (0, S1)) (hU1 : xdr S1 = U) (b1 : fX3_readNumber 5000 0 9 S1 = some (v, S2)) (hU2 : xdr S2 = U) : fX3_readWet 5000 S = fX3_readWet_h49 5000 5000 1 (sU (sU S2 (U + 9) 0 v) U 10 1) := by
  unfold fX3_readWet fX3_readWet_b0
  dsimp only [lt]
  rw [hU, h10, if_pos (by decide)]
  unfold fX3_readWet_b16
  dsimp only [lt]
  rw [bnd_t a1]
  dsimp only
  rw [hU1, bnd_t b1]
  dsimp only
  rw [show xdr (sU S2 (U + 9) 0 v) = U from (xdr_on (sU_n (by omega))).trans hU2]
theorem wetM (a2 : fX12_stepOn 5000 SM = some (0, SM1)) : fX12_sayOnce 5000 1 SM = bnd (fX12_sayWets 5000 SM1) (fun q1 => some (0, q1.2)) := by
  unfold fX12_sayOnce fX12_sayOnce_b0
  rw [bnd_t a2]
  rfl
theorem wetM0 (F : SM 99 27 = 0) (h2 : SM 99 23 = 2) {v : Int32} (b2 : fX12_readNumber 5000 0 9 SM = some (v, SM2)) : ∀ f, fX12_sayWets_h22 5000 (f + 1) 0 SM = if SM2 99 27 = 0 then fX12_sayWets_h22 5000 f 1 (sU SM2 14 8 v) else some (0, SM2) := by
  intro f
  show fX12_sayWets_b22 5000 (fX12_sayWets_h22 5000 f) 0 SM = _
  unfold fX12_sayWets_b22
  rw [if_pos F]
  unfold fX12_sayWets_b29
  rw [if_pos h2]
  unfold fX12_sayWets_b37
  rw [if_neg (by decide)]
  unfold fX12_sayWets_b48
  rw [bnd_t b2]
  rfl
theorem L_wet (hd : drK U g0 g1 0 b c1 c2 tk S SM) (hU : xdr S = U) (T : tkJ B n s p k S SM) (F : fine S SM) (k0 : k ≠ 0) : ∃ S' SM', fX3_readWet 5000 S = some (0, S') ∧ fX12_sayOnce 5000 1 SM = some (0, SM') ∧ LIN B n U s S SM S' SM' (doneV 1 b c1 c2) := by
  have hT := xdr_cases (S := S)
  rw [hU] at hT
  obtain ⟨S1, SM1, s1, p1, k1, a1, a2, T1, F1, a5, a6, a7⟩ := j_tok T F k0
  have hU1 : xdr S1 = U := (xdr_on (a6 1 1 rfl)).trans hU
  have h10 := hd.2.2.1.1
  have fin : ∀ (S2 SM2 S' SM' : gS), oSame xNu S1 S2 → oSame mNu SM1 SM2 → (∀ a b, xNu a b = false → ¬ (a = U ∧ b = 10) → a ≠ U + 9 → S' a b = S2 a b) → (∀ a b, mNu a b = false → ¬ (a = 5 ∧ b = 9) → ¬ (a = 14 ∧ 8 ≤ b) → SM' a b = SM2 a b) → (∀ a b, xNu a b = false → ¬ (a = U ∧ b = 10) → a ≠ U + 9 → S' a b = S a b) ∧ (∀ a b, mNu a b = false → ¬ (a = 5 ∧ b = 9) → ¬ (a = 14 ∧ 8 ≤ b) → SM' a b = SM a b) ∧ fLx U S S' ∧ fLm SM SM' := by
    intro S2 SM2 S' SM' o1 o2 g1 g2
    have e1 : ∀ a b, xNu a b = false → ¬ (a = U ∧ b = 10) → a ≠ U + 9 → S' a b = S a b := fun a b z1 z2 z3 => by
      rw [g1 a b z1 z2 z3, o1 a b z1]
      exact a6 a b (xNu_f z1).1
    have e2 : ∀ a b, mNu a b = false → ¬ (a = 5 ∧ b = 9) → ¬ (a = 14 ∧ 8 ≤ b) → SM' a b = SM a b := fun a b z1 z2 z3 => by
      rw [g2 a b z1 z2 z3, o2 a b z1]
      exact a7 a b (mNu_f z1).1
    refine ⟨e1, e2, fun i j z1 z2 => e1 i j z1 (by omega) (by omega), fun i j z1 z2 => e2 i j z1 ?_ ?_⟩
    · intro z
      exact z2 (Or.inr (Or.inl (by omega)))
    · intro z
      exact z2 (Or.inr (Or.inr (Or.inl (by omega))))
  by_cases q2 : k1 = 2
  · subst q2
    obtain ⟨v, S2, v', SM2, b1, b2, ⟨o1, o2, s2, p2, k2, T2, h⟩, -⟩ := j_num (lo := 0) (hi := 9) (by decide) (by decide) T1 F1
    replace h : hid _ := h
    have hU2 : xdr S2 = U := (xdr_on (o1 1 1 rfl)).trans hU1
    have eX := wetX hT hU h10 a1 hU1 (show fX3_readNumber 5000 0 9 S1 = _ from b1) hU2
    have eM : fX12_sayWets 5000 SM1 = if SM2 99 27 = 0 then fX12_sayWets_h22 5000 4999 1 (sU SM2 14 8 v') else some (0, SM2) := by
      unfold fX12_sayWets fX12_sayWets_b0
      rw [if_pos F1.2]
      unfold fX12_sayWets_b9
      rw [if_pos (show SM1 99 23 = 2 from T1.2.2.1.2.2.2.2)]
      exact wetM0 F1.2 T1.2.2.1.2.2.2.2 (show fX12_readNumber 5000 0 9 SM1 = _ from b2) 4999
    obtain ⟨S4, h4⟩ : ∃ z, z = sU (sU S2 (U + 9) 0 v) U 10 1 := ⟨_, rfl⟩
    rw [← h4] at eX
    have kx : ∀ a b, ¬ (a = U ∧ b = 10) → ¬ (a = U + 9 ∧ b = 0) → S4 a b = S2 a b := fun a b z1 z2 => by rw [h4, sU_n z1, sU_n z2]
    rcases (show _ ∨ _ from h) with ⟨F2, e2, -, y, y1, y2, y3, y4⟩ | h'
    · rw [if_pos F2.2] at eM
      obtain ⟨S', SM', g1', g2', g3, g4, s5, p5, k5, c5, T5, g5⟩ := j_wets (B := B) (n := n) hT 7 1 5000 4999 S4 (sU SM2 14 8 v') s2 p2 k2 (by omega) (by omega) (by omega) (by omega) (T2.on (fun j => kx 2 j (by omega) (by omega)) (fun j => kx 3 j (by omega) (by omega)) (fun j _ _ => sU_n (by omega)) (fun j _ => sU_n (by omega))) ⟨⟨by rw [kx 1 2 (by omega) (by omega)]; exact F2.1.1, by rw [kx 1 3 (by omega) (by omega)]; exact F2.1.2⟩, by rw [sU_n (by omega)]; exact F2.2⟩ ((xdr_on (kx 1 1 (by omega) (by omega))).trans hU2) (by rw [h4, sU_ap, if_pos ⟨rfl, rfl⟩]; rfl) (fun q z => by
        obtain rfl : q = 0 := by omega
        refine ⟨y, y2, ?_, ?_⟩
        · rw [h4, sU_n (by omega), sU_ap, if_pos ⟨rfl, rfl⟩]; exact y3
        · rw [sU_ap, if_pos ⟨rfl, rfl⟩]; exact y4)
      obtain ⟨f1, f2, f3, f4⟩ := fin S2 SM2 S' SM' o1 o2 (fun i j z1 z2 z3 => by rw [g3 i j z1 z2 z3]; exact kx i j z2 (by omega)) (fun i j z1 z2 z3 => by rw [g4 i j z1 z2 z3]; exact sU_n (by omega))
      refine ⟨S', SM', ?_, ?_, f3, f4, s5, p5, k5, T5, ?_⟩
      · rw [eX]
        exact g1'
      · rw [wetM a2, eM, bnd_t (show fX12_sayWets_h22 5000 4999 1 _ = _ from g2')]
      · rcases g5 with ⟨w1, w2, w3, w4, w5, w6, w7⟩ | g5
        · exact Or.inl ⟨w1, by omega, g0, g1, c5, b, c1, c2, tk, dr_wet hT hd f1 f2 ⟨w5, w6, w4, w7⟩, (dn_1 (nw := 0) w3).1⟩
        · exact Or.inr g5
    · rw [if_neg (flt_x (N := 5000) h').2.1] at eM
      have hf : flt S4 SM2 := by
        obtain ⟨q, q1, q2, q3, q4, q5⟩ := h'
        exact ⟨q, q1, q2, by rw [kx 1 2 (by omega) (by omega)]; exact q3, q4, by rw [kx 1 3 (by omega) (by omega)]; exact q5⟩
      obtain ⟨f1, f2, f3, f4⟩ := fin S2 SM2 S4 SM2 o1 o2 (fun i j z1 z2 z3 => kx i j z2 (by omega)) (fun i j z1 z2 z3 => rfl)
      refine ⟨S4, SM2, ?_, ?_, f3, f4, s2, p2, k2, T2.on (fun j => kx 2 j (by omega) (by omega)) (fun j => kx 3 j (by omega) (by omega)) (fun _ _ _ => rfl) (fun _ _ => rfl), Or.inr hf⟩
      · rw [eX]
        exact wet_flt hf (f := 4999)
      · rw [wetM a2, eM]
        rfl
  · obtain ⟨S2, SM2, r1, r2, r3, ⟨o1, o2, s2, p2, k2, T2, -⟩⟩ := j_refuse (q := 1) (G := False) (by decide) T1 F1
    have hk := T1.2.2.2.1
    unfold tkK at hk
    have e4 : ¬ S1 2 4 = 2 := by
      rw [T1.2.1.2.2.2]
      exact fun z => q2 ((nI_eq (b := 2) (by omega) (by omega)).mp z)
    have m4 : ¬ SM1 99 23 = 2 := by
      rw [T1.2.2.1.2.2.2.2]
      exact fun z => q2 ((nI_eq (b := 2) (by omega) (by omega)).mp z)
    have hU2 : xdr S2 = U := (xdr_on (o1 1 1 rfl)).trans hU1
    have b1 : fX3_readNumber 5000 0 9 S1 = some (S2 2 6, S2) := by
      unfold fX3_readNumber fX3_readNumber_b0
      rw [if_neg e4]
      unfold fX3_readNumber_b11
      rw [bnd_t (show fX3_refuse 5000 1 S1 = _ from r1)]
      dsimp only
      unfold fX3_readNumber_b39
      rw [bnd_t (flt_x (N := 5000) r3).1]
      rfl
    have eX := wetX hT hU h10 a1 hU1 b1 hU2
    have eM : fX12_sayWets 5000 SM1 = some (0, sU SM2 5 9 0) := by
      unfold fX12_sayWets fX12_sayWets_b0
      rw [if_pos F1.2]
      unfold fX12_sayWets_b9
      rw [if_neg m4]
      unfold fX12_sayWets_b17
      rw [bnd_t (show fX12_wrong 5000 1 SM1 = _ from r2)]
      exact wets_bad (flt_x (N := 5000) r3).2.1 (f := 4999)
    obtain ⟨S4, h4⟩ : ∃ z, z = sU (sU S2 (U + 9) 0 (S2 2 6)) U 10 1 := ⟨_, rfl⟩
    rw [← h4] at eX
    have kx : ∀ a b, ¬ (a = U ∧ b = 10) → ¬ (a = U + 9 ∧ b = 0) → S4 a b = S2 a b := fun a b z1 z2 => by rw [h4, sU_n z1, sU_n z2]
    have hf : flt S4 (sU SM2 5 9 0) := by
      obtain ⟨q, q1, q2, q3, q4, q5⟩ := r3
      exact ⟨q, q1, q2, by rw [kx 1 2 (by omega) (by omega)]; exact q3, by rw [sU_n (by omega)]; exact q4, by rw [kx 1 3 (by omega) (by omega), sU_n (by omega)]; exact q5⟩
    obtain ⟨f1, f2, f3, f4⟩ := fin S2 SM2 S4 (sU SM2 5 9 0) o1 o2 (fun i j z1 z2 z3 => kx i j z2 (by omega)) (fun i j z1 z2 z3 => sU_n z2)
    refine ⟨S4, sU SM2 5 9 0, ?_, ?_, f3, f4, s2, p2, k2, T2.on (fun j => kx 2 j (by omega) (by omega)) (fun j => kx 3 j (by omega) (by omega)) (fun j _ _ => sU_n (by omega)) (fun j _ => sU_n (by omega)), Or.inr hf⟩
    · rw [eX]
      exact wet_flt hf (f := 4999)
    · rw [wetM a2, eM]
      rfl
end
