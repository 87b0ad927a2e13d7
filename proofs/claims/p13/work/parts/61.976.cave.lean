/-- out of omega's sight -/
def hid (P : Prop) : Prop := P
section
variable {B : Nat → Nat} {n s p k N : Nat} {S SM : gS}
/-- the LINE of a GROTTO, where there is room for one -/
theorem j_cave {x g0 : Nat} (hx : x ≤ 1) (T : tkJ B n s p k S SM) (F : fine S SM) (k0 : k ≠ 0) (hg : g0 < 8) (h0 : S (xdr S) 0 = nI g0) (h5 : SM 5 6 = nI g0) : ∃ S' SM', fX3_readGrotto 5000 (nI x) S = some (0, S') ∧ fX12_sayCave 5000 (nI x) SM = some (0, SM') ∧ (∀ i j, xNu i j = false → ¬ (i = xdr S ∧ j = 0) → ¬ ((i = xdr S + 1 ∨ i = xdr S + 2 ∨ i = xdr S + 3 ∨ i = xdr S + 4) ∧ j = g0) → S' i j = S i j) ∧ (∀ i j, mNu i j = false → ¬ (i = 5 ∧ j = 6) → ¬ ((i = 6 ∨ i = 7 ∨ i = 8 ∨ i = 9) ∧ j = 8 + g0) → SM' i j = SM i j) ∧ ∃ s' p' k', tkJ B n s' p' k' S' SM' ∧ ((fine S' SM' ∧ s + 1 ≤ s' ∧ S' (xdr S) 0 = nI (g0 + 1) ∧ SM' 5 6 = nI (g0 + 1) ∧ (∃ y : Nat, 1 ≤ y ∧ y ≤ 12 ∧ S' (xdr S + 1) g0 = nI y ∧ SM' 7 (8 + g0) = nI y) ∧ (∃ y : Nat, y ≤ 11 ∧ S' (xdr S + 2) g0 = nI y ∧ SM' 8 (8 + g0) = nI y) ∧ (∃ y : Nat, y ≤ 20 ∧ S' (xdr S + 3) g0 = nI y ∧ SM' 9 (8 + g0) = nI y) ∧ S' (xdr S + 4) g0 = nI x ∧ SM' 6 (8 + g0) = nI x) ∨ flt S' SM') := by
  have hT := xdr_cases (S := S)
  obtain ⟨U, hU⟩ : ∃ z, z = xdr S := ⟨_, rfl⟩
  rw [← hU] at hT h0 ⊢
  obtain ⟨S1, SM1, s1, p1, k1, a1, a2, T1, F1, a5, a6, a7⟩ := j_tok T F k0
  obtain ⟨SM2, hM2⟩ : ∃ z, z = sU SM1 6 (8 + g0) (nI x) := ⟨_, rfl⟩
  have T2 : tkJ B n s1 p1 k1 S1 SM2 := T1.on (fun _ => rfl) (fun _ => rfl) (fun j _ _ => by rw [hM2]; exact sU_n (by omega)) (fun j _ => by rw [hM2]; exact sU_n (by omega))
  have F2 : fine S1 SM2 := ⟨F1.1, by rw [hM2, sU_n (by omega)]; exact F1.2⟩
  obtain ⟨v, Sa, v', Ma, b1, b2, oa1, oa2, sa, pa, ka, Ta, ha⟩ := j_put (A := U + 1) (b := g0) (M := 7) (m := 8 + g0) (lo := 1) (hi := 12) (by decide) (by decide) (by omega) (by decide) T2 (Or.inl F2)
  replace ha : hid _ := ha
  obtain ⟨w, Sb, w', Mb, c1, c2, ob1, ob2, sb, pb, kb, Tb, hb⟩ := j_put (A := U + 2) (b := g0) (M := 8) (m := 8 + g0) (lo := 0) (hi := 11) (by decide) (by decide) (by omega) (by decide) Ta (Or.elim (show _ ∨ _ from ha) (fun z => Or.inl z.2.2.1) Or.inr)
  replace hb : hid _ := hb
  obtain ⟨u, Sc, u', Mc, d1, d2, oc1, oc2, sc, pc, kc, Tc, hc⟩ := j_put (A := U + 3) (b := g0) (M := 9) (m := 8 + g0) (lo := 0) (hi := 20) (by decide) (by decide) (by omega) (by decide) Tb (Or.elim (show _ ∨ _ from hb) (fun z => Or.inl z.2.2.1) Or.inr)
  replace hc : hid _ := hc
  have xr : ∀ S', S' 1 1 = S 1 1 → xdr S' = U := fun S' z => by rw [hU]; exact xdr_on z
  have e1 : S1 1 1 = S 1 1 := a6 1 1 rfl
  have ea : sU Sa (U + 1) g0 v 1 1 = S 1 1 := by rw [sU_n (by omega), oa1 1 1 rfl]; exact e1
  have eb : sU Sb (U + 2) g0 w 1 1 = S 1 1 := by rw [sU_n (by omega), ob1 1 1 rfl]; exact ea
  have ec : sU Sc (U + 3) g0 u 1 1 = S 1 1 := by rw [sU_n (by omega), oc1 1 1 rfl]; exact eb
  have fU : ∀ j, xNu U j = false := fun j => by rcases hT with z | z <;> rw [z] <;> rfl
  have q0 : sU Sc (U + 3) g0 u U 0 = nI g0 := by
    rw [sU_n (by omega), oc1 U 0 (fU 0), sU_n (by omega), ob1 U 0 (fU 0), sU_n (by omega), oa1 U 0 (fU 0), a6 U 0 (xNu_f (fU 0)).1]
    exact h0
  have m0 : sU Mc 9 (8 + g0) u' 5 6 = nI g0 := by
    rw [sU_n (by omega), oc2 5 6 rfl, sU_n (by omega), ob2 5 6 rfl, sU_n (by omega), oa2 5 6 rfl, hM2, sU_n (by omega), a7 5 6 rfl]
    exact h5
  have hn : vp_nar .boolean (nI x) = nI x := by
    rcases (show x = 0 ∨ x = 1 by omega) with rfl | rfl <;> rfl
  obtain ⟨S9, h9⟩ : ∃ z, z = sU (sU (sU Sc (U + 3) g0 u) (U + 4) g0 (nI x)) U 0 (nI (g0 + 1)) := ⟨_, rfl⟩
  obtain ⟨M9, hm9⟩ : ∃ z, z = sU (sU Mc 9 (8 + g0) u') 5 6 (nI (g0 + 1)) := ⟨_, rfl⟩
  refine ⟨S9, M9, ?_, ?_, fun i j z1 z2 z3 => ?_, fun i j z1 z2 z3 => ?_, sc, pc, kc, Tc.on (fun j => by rw [h9, sU_n (by omega), sU_n (by omega)]) (fun j => by rw [h9, sU_n (by omega), sU_n (by omega)]) (fun j _ _ => by rw [hm9, sU_n (by omega)]) (fun j _ => by rw [hm9, sU_n (by omega)]), ?_⟩
  · unfold fX3_readGrotto fX3_readGrotto_b0
    dsimp only [lt]
    rw [← hU, h0, if_pos (show nI g0 < 8 from nI_lt (b := 8) hg (by decide))]
    unfold fX3_readGrotto_b20
    dsimp only [lt]
    rw [bnd_t a1]
    dsimp only
    rw [xr S1 e1, bnd_t (show fX3_readNumber 5000 1 12 S1 = _ from b1)]
    dsimp only
    rw [chk_t (inb_t hg (by decide)), nI_clamp (by omega), xr _ ea, bnd_t (show fX3_readNumber 5000 0 11 _ = _ from c1)]
    dsimp only
    rw [chk_t (inb_t hg (by decide)), xr _ eb, bnd_t (show fX3_readNumber 5000 0 20 _ = _ from d1)]
    dsimp only
    rw [chk_t (inb_t hg (by decide)), xr _ ec, chk_t (inb_t hg (by decide)), hn, xr (sU (sU Sc (U + 3) g0 u) (U + 4) g0 (nI x)) (by rw [sU_n (by omega)]; exact ec), show sU (sU Sc (U + 3) g0 u) (U + 4) g0 (nI x) U 0 = nI g0 by rw [sU_n (by omega)]; exact q0, nI_1 g0, h9]
  · have e8 : (8 : Int32) + nI g0 = nI (8 + g0) := by rw [show (8 : Int32) = nI 8 from rfl, nI_add]
    have i16 : inb (nI (8 + g0)) 16 = true := inb_t (by omega) (by decide)
    have c16 : (nI (8 + g0)).toNatClampNeg = 8 + g0 := nI_clamp (by omega)
    have s56 : SM1 5 6 = nI g0 := (a7 5 6 rfl).trans h5
    unfold fX12_sayCave fX12_sayCave_b0
    have an : fX12_another 5000 0 8 SM = some (1, SM1) := by
      rw [show fX12_another 5000 0 8 SM = _ from m_another (w := 0) (c := g0) (mo := 8) (by decide) (by omega) (by decide) h5, if_neg (by omega)]
      unfold fX12_another_b18
      rw [if_pos F.2]
      unfold fX12_another_b27
      rw [bnd_t a2]
    rw [bnd_t an]
    show fX12_sayCave_b11 5000 (nI x) SM1 = _
    unfold fX12_sayCave_b11
    dsimp only [lt]
    rw [s56, e8, chk_t i16, c16, ← hM2, bnd_t (show fX12_readNumber 5000 1 12 SM2 = _ from b2)]
    dsimp only
    rw [chk_t i16, bnd_t (show fX12_readNumber 5000 0 11 _ = _ from c2)]
    dsimp only
    rw [chk_t i16, bnd_t (show fX12_readNumber 5000 0 20 _ = _ from d2)]
    dsimp only
    rw [chk_t i16, m0, nI_1 g0, hm9]
  · rw [h9, sU_n z2, sU_n (by omega), sU_n (by omega), oc1 i j z1, sU_n (by omega), ob1 i j z1, sU_n (by omega), oa1 i j z1]
    exact a6 i j (xNu_f z1).1
  · rw [hm9, sU_n z2, sU_n (by omega), oc2 i j z1, sU_n (by omega), ob2 i j z1, sU_n (by omega), oa2 i j z1, hM2, sU_n (by omega)]
    exact a7 i j (mNu_f z1).1
  · have fx : flt (sU Sc (U + 3) g0 u) (sU Mc 9 (8 + g0) u') → flt S9 M9 := by
      rintro ⟨q, q1, q2, q3, q4, q5⟩
      exact ⟨q, q1, q2, by rw [h9, sU_n (by omega), sU_n (by omega)]; exact q3, by rw [hm9, sU_n (by omega)]; exact q4, by rw [h9, hm9, sU_n (by omega), sU_n (by omega), sU_n (by omega)]; exact q5⟩
    rcases (show _ ∨ _ from hc) with ⟨f1, f2, f3, y, y1, y2, rfl, rfl⟩ | hc'
    · rcases (show _ ∨ _ from hb) with ⟨g1, g2, g3, t, t1, t2, rfl, rfl⟩ | hb'
      · rcases (show _ ∨ _ from ha) with ⟨l1, l2, l3, o, o1, o2, rfl, rfl⟩ | ha'
        · have xU : ∀ i j, (i = U + 1 ∨ i = U + 2 ∨ i = U + 3 ∨ i = U + 4) → xNu i j = false := fun i j z => by rcases hT with y | y <;> rcases z with z | z | z | z <;> rw [z, y] <;> rfl
          refine Or.inl ⟨⟨?_, ?_⟩, by omega, ?_, ?_, ⟨o, o1, o2, ?_, ?_⟩, ⟨t, t2, ?_, ?_⟩, ⟨y, y2, ?_, ?_⟩, ?_, ?_⟩
          · exact ⟨by rw [h9, sU_n (by omega), sU_n (by omega)]; exact f3.1.1, by rw [h9, sU_n (by omega), sU_n (by omega)]; exact f3.1.2⟩
          · rw [hm9, sU_n (by omega)]; exact f3.2
          · rw [h9, sU_ap, if_pos ⟨rfl, rfl⟩]
          · rw [hm9, sU_ap, if_pos ⟨rfl, rfl⟩]
          · rw [h9, sU_n (by omega), sU_n (by omega), sU_n (by omega), oc1 _ _ (xU _ _ (by omega)), sU_n (by omega), ob1 _ _ (xU _ _ (by omega)), sU_ap, if_pos ⟨rfl, rfl⟩]
          · rw [hm9, sU_n (by omega), sU_n (by omega), oc2 7 _ rfl, sU_n (by omega), ob2 7 _ rfl, sU_ap, if_pos ⟨rfl, rfl⟩]
          · rw [h9, sU_n (by omega), sU_n (by omega), sU_n (by omega), oc1 _ _ (xU _ _ (by omega)), sU_ap, if_pos ⟨rfl, rfl⟩]
          · rw [hm9, sU_n (by omega), sU_n (by omega), oc2 8 _ rfl, sU_ap, if_pos ⟨rfl, rfl⟩]
          · rw [h9, sU_n (by omega), sU_n (by omega), sU_ap, if_pos ⟨rfl, rfl⟩]
          · rw [hm9, sU_n (by omega), sU_ap, if_pos ⟨rfl, rfl⟩]
          · rw [h9, sU_n (by omega), sU_ap, if_pos ⟨rfl, rfl⟩]
          · rw [hm9, sU_n (by omega), sU_n (by omega), oc2 6 _ rfl, sU_n (by omega), ob2 6 _ rfl, sU_n (by omega), oa2 6 _ rfl, hM2, sU_ap, if_pos ⟨rfl, rfl⟩]
        · exact absurd g1.2 (flt_x (N := 5000) ha').2.1
      · exact absurd f1.2 (flt_x (N := 5000) hb').2.1
    · exact Or.inr (fx hc')
end
