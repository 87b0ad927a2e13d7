theorem hoR_cases {r : Nat → Int32} {x : Int32} : ∀ (m k : Nat), (hoR r x m k = -1 ∧ ∀ i, k ≤ i → i < k + m → r i ≠ x) ∨ ∃ g, k ≤ g ∧ g < k + m ∧ r g = x ∧ hoR r x m k = nI g := by
  intro m
  induction m with
  | zero => intro k; exact Or.inl ⟨rfl, fun i h1 h2 => by omega⟩
  | succ m ih =>
    intro k
    by_cases h : r k = x
    · exact Or.inr ⟨k, Nat.le_refl _, by omega, h, if_pos h⟩
    · have e : hoR r x (m + 1) k = hoR r x m (k + 1) := if_neg h
      rw [e]
      rcases ih (k + 1) with ⟨h1, h2⟩ | ⟨g, h1, h2, h3, h4⟩
      · refine Or.inl ⟨h1, fun i a b => ?_⟩
        by_cases hi : i = k
        · subst hi; exact h
        · exact h2 i (by omega) (by omega)
      · exact Or.inr ⟨g, by omega, by omega, h3, h4⟩
section
variable {N g k h f : Nat} {Z S : gS} {we : Int32}
theorem m_pr48 {r : Int32 → gS → Option (Int32 × gS)} (Zk : tOK Z) (hM : tM Z S) (hg : g < 6) (hk : k < tn0 Z) (h35 : S 35 g = nI k) (hh : S 99 37 = nI h) (hb : h < 2 ^ 31) (hw : mW Z S we h) (hN : 700 < N) : ∃ S', fX12_anHour_h48 N r (f + 3) (nI k) (nI g) 0 S = r (nI (k + 1)) S' ∧ S' 32 g = prD Z k (S 32 g) (S 33 g) we (S 99 37) (S 18 g) ∧ (∀ i j, i ≠ 42 → i ≠ 43 → ¬ (i = 32 ∧ j = g) → S' i j = S i j) := by
  have z8 := Zk.1.2
  have hng : ¬ nI g = -1 := nI_nem (by omega)
  have hkc : (nI k).toNatClampNeg = k := nI_clamp (by omega)
  have hik : inb (nI k) 16 = true := inb_t (by omega) (by decide)
  obtain ⟨-, -, -, h4⟩ := Zk.2.2.2.2.1 k hk
  have m4 := (hM.2.2.2.2.2.2.2.1 k hk).2.2.2
  obtain ⟨S1, p1, p2⟩ := m_pray (N := N) Zk hM hg hk h35 hh hb hw hN
  have q1 : ∀ i j, i ≠ 42 → i ≠ 43 → ¬ (i = 32 ∧ j = g) → sU S1 32 g (prZ Z k (S 32 g) (S 33 g) we (S 99 37) (S 18 g)) i j = S i j := fun i j a1 a2 a3 => by rw [sU_n a3, p2 i j (mRu_f a1 a2)]
  have st0 : ∀ F, fX12_anHour_b48 N r F (nI k) (nI g) 0 S = F (nI k) (nI g) 1 (sU S1 32 g (prZ Z k (S 32 g) (S 33 g) we (S 99 37) (S 18 g))) := by
    intro F
    unfold fX12_anHour_b48
    rw [if_neg hng]
    unfold fX12_anHour_b53
    rw [chk_t hik, hkc, m4, if_neg (by rcases h4 with h4 | h4 <;> rw [h4] <;> decide)]
    unfold fX12_anHour_b63
    rw [bnd_t p1]
    rfl
  show ∃ S', fX12_anHour_b48 N r (fX12_anHour_h48 N r (f + 2)) (nI k) (nI g) 0 S = _ ∧ _
  rw [st0]
  show ∃ S', fX12_anHour_b48 N r (fX12_anHour_h48 N r (f + 1)) (nI k) (nI g) 1 _ = _ ∧ _
  generalize hS2 : sU S1 32 g (prZ Z k (S 32 g) (S 33 g) we (S 99 37) (S 18 g)) = S2 at q1
  have v2 : S2 32 g = prZ Z k (S 32 g) (S 33 g) we (S 99 37) (S 18 g) := by rw [← hS2, sU_s]
  unfold fX12_anHour_b48
  rw [if_neg hng]
  unfold fX12_anHour_b53
  rw [chk_t hik, hkc, q1 6 k (by omega) (by omega) (by omega), m4]
  rcases h4 with h4 | h4
  · rw [if_pos (by rw [h4]; decide)]
    refine ⟨S2, ?_, ?_, q1⟩
    · unfold fX12_anHour_b74
      rw [nI_1]
    · unfold prD
      rw [if_pos h4]
      exact v2
  · have h4' : ¬ Z 4 k = 0 := by rw [h4]; decide
    rw [if_neg (by rw [h4]; decide)]
    unfold fX12_anHour_b63
    obtain ⟨S3, p3, p4⟩ := m_pray (N := N) (S := S2) (we := we) (h := h) Zk (hM.on (fun i j a1 a2 => q1 i j (by omega) (by omega) (by omega))) hg hk (by rw [q1 35 g (by omega) (by omega) (by omega)]; exact h35) (by rw [q1 99 37 (by omega) (by omega) (by omega)]; exact hh) hb (by
      unfold mW
      rw [q1 99 41 (by omega) (by omega) (by omega)]
      exact hw) hN
    rw [bnd_t p3]
    show ∃ S', fX12_anHour_b48 N r (fX12_anHour_h48 N r f) (nI k) (nI g) 2 (sU S3 32 g (prZ Z k (S2 32 g) (S2 33 g) we (S2 99 37) (S2 18 g))) = _ ∧ _
    have q3 : ∀ x i j, i ≠ 42 → i ≠ 43 → ¬ (i = 32 ∧ j = g) → sU S3 32 g x i j = S i j := fun x i j a1 a2 a3 => by rw [sU_n a3, p4 i j (mRu_f a1 a2), q1 i j a1 a2 a3]
    unfold fX12_anHour_b48
    rw [if_neg hng]
    unfold fX12_anHour_b53
    rw [chk_t hik, hkc, q3 _ 6 k (by omega) (by omega) (by omega), m4, if_pos (by rw [h4]; decide)]
    refine ⟨_, ?_, ?_, q3 (prD Z k (S 32 g) (S 33 g) we (S 99 37) (S 18 g))⟩
    · unfold fX12_anHour_b74 prD
      rw [nI_1, if_neg h4', v2, q1 33 g (by omega) (by omega) (by omega), q1 99 37 (by omega) (by omega) (by omega), q1 18 g (by omega) (by omega) (by omega)]
    · rw [sU_s]
end
section
variable {N h : Nat} {Z : gS} {we d : Int32} {e : Nat → Int32} {qs : Nat → qT}
theorem m_anHour {S : gS} (Zk : tOK Z) (qo : ∀ g, g < tn1 Z → hOK (tn0 Z) (qs g)) (uq : ∀ g g', g < tn1 Z → g' < tn1 Z → (qs g).2.2.2 = (qs g').2.2.2 → (qs g).2.2.2 ≠ -1 → g = g') (hb : h < 2 ^ 30) (hN : 700 < N) (hM : tM Z S) (he : ∀ g, g < tn1 Z → S 18 g = e g) (hh : S 99 37 = nI h) (hd : S 99 38 = d) (hw : mW Z S we h) (hw0 : 0 ≤ we) (R : rowsM (tn1 Z) S qs) :
    ∃ S', fX12_anHour N S = some (0, S') ∧ rowsM (tn1 Z) S' (fun g => (hG Z (e g) d we (nI h) (qs g)).2) ∧ S' 99 37 = nI (h + 1) ∧ S' 99 45 = drB (fun g => (hG Z (e g) d we (nI h) (qs g)).1) (tn1 Z) 0 0 ∧ oSame mHo S S' := by
  have z8 := Zk.1.2
  have z6 := Zk.2.1.2
  have hB : fX12_drippingNow N S = some (drB (fun k => drZ Z k (nI h) we d) (tn0 Z) 0 0, S) := by
    rw [m_drippingNow (n := tn0 Z) hM.1 z8 (fun k hk => by
      obtain ⟨⟨x, x1, x2, x3⟩, -⟩ := Zk.2.2.2.2.1 k hk
      exact ⟨x, x1, x2, (hM.2.2.2.2.2.2.2.1 k hk).1.trans x3⟩) (m_wetW Zk hM hh (by omega) hw) hw0 (by omega)]
    refine congrArg (fun z => some (z, S)) (drB_eq _ _ _ (fun k _ hk => ?_))
    obtain ⟨m1, m2, -, -⟩ := hM.2.2.2.2.2.2.2.1 k (by omega)
    unfold drZ
    rw [m1, m2, hh, hd]
  have hbt : ∀ k, k < tn0 Z → bt (drB (fun k => drZ Z k (nI h) we d) (tn0 Z) 0 0) (nI k) = drZ Z k (nI h) we d := by
    intro k hk
    rw [bt_bb (by omega), bb_drB (by omega) (tn0 Z) 0 0 (by omega), bb_0, decide_eq_true (p := 0 ≤ k) (by omega), decide_eq_true (p := k < 0 + tn0 Z) (by omega)]
    simp
  obtain ⟨S0, hS0⟩ : ∃ z, z = sU (sU S 99 44 (drB (fun k => drZ Z k (nI h) we d) (tn0 Z) 0 0)) 99 45 0 := ⟨_, rfl⟩
  have s0 : ∀ i j, ¬ (i = 99 ∧ (j = 44 ∨ j = 45)) → S0 i j = S i j := fun i j hij => by rw [hS0, sU_n (by omega), sU_n (by omega)]
  have h44 : S0 99 44 = drB (fun k => drZ Z k (nI h) we d) (tn0 Z) 0 0 := by rw [hS0, sU_n (by omega), sU_s]
  have h45 : S0 99 45 = 0 := by rw [hS0, sU_s]
  have main : Gv (fX12_anHour_h15 N N 0 S0) (fun r => r.1 = 0 ∧ rowsM (tn1 Z) r.2 (fun g => (hG Z (e g) d we (nI h) (qs g)).2) ∧ r.2 99 37 = nI (h + 1) ∧ r.2 99 45 = drB (fun g => (hG Z (e g) d we (nI h) (qs g)).1) (tn1 Z) 0 0 ∧ oSame mHo S r.2) := by
    refine loopG (fun f k S => fX12_anHour_h15 N f (nI k) S) (fun k S' => (∀ i j, i ≠ 42 → i ≠ 43 → ¬ (i = 32 ∧ j < 6) → S' i j = S0 i j) ∧ ∀ g, g < tn1 Z → S' 32 g = if qk (qs g) < k then sn1 Z (e g) d we (nI h) (qs g) else (qs g).1) _ (tn0 Z) ?_ ?_ (tn0 Z) 0 S0 N (by omega) ⟨fun _ _ _ _ _ => rfl, fun g hg => by rw [if_neg (by omega), s0 32 g (by omega)]; exact (R g hg).1⟩ (by omega)
    · rintro f S1 ⟨i1, i2⟩
      show Gv (fX12_anHour_b15 N _ (nI (tn0 Z)) S1) _
      unfold fX12_anHour_b15
      rw [i1 5 0 (by omega) (by omega) (by omega), s0 5 0 (by omega), hM.1, if_pos (nI_le (Nat.le_refl _) (by omega))]
      unfold fX12_anHour_b80
      have i3 : ∀ i j, i ≠ 42 → i ≠ 43 → ¬ (i = 32 ∧ j < 6) → ¬ (i = 99 ∧ (j = 44 ∨ j = 45)) → S1 i j = S i j := fun i j a1 a2 a3 a4 => (i1 i j a1 a2 a3).trans (s0 i j a4)
      refine Gv.m (m_h82 (e := e) (we := we) (h := h) (qs := fun g => (sn1 Z (e g) d we (nI h) (qs g), (qs g).2)) Zk (fun g hg => qo g hg) hb hN (hM.on (fun i j a1 a2 => i3 i j (by omega) (by omega) (by omega) (by omega))) (fun g hg => by rw [i3 18 g (by omega) (by omega) (by omega) (by omega)]; exact he g hg) (by rw [i3 99 37 (by omega) (by omega) (by omega) (by omega)]; exact hh) (by
        unfold mW
        rw [i3 99 41 (by omega) (by omega) (by omega) (by omega)]
        exact hw) (fun g hg => ?_) (by rw [i1 99 45 (by omega) (by omega) (by omega)]; exact h45)) ?_
      · obtain ⟨r1, r2, r3, r4⟩ := R g hg
        have hl : qk (qs g) < tn0 Z ∨ (qs g).2.2.2 = -1 := by
          rcases qo g hg with h9 | ⟨k, hk, h9⟩
          · exact Or.inr h9
          · refine Or.inl ?_
            unfold qk
            rw [h9, nI_clamp (by omega)]
            exact hk
        refine ⟨?_, by rw [i3 33 g (by omega) (by omega) (by omega) (by omega)]; exact r2, by rw [i3 34 g (by omega) (by omega) (by omega) (by omega)]; exact r3, by rw [i3 35 g (by omega) (by omega) (by omega) (by omega)]; exact r4⟩
        rw [i2 g hg]
        by_cases h8 : qk (qs g) < tn0 Z
        · rw [if_pos h8]
        · rw [if_neg h8]
          have h9 : (qs g).2.2.2 = -1 := hl.resolve_left h8
          show (qs g).1 = sn1 Z (e g) d we (nI h) (qs g)
          unfold sn1
          rw [if_pos h9]
      · rintro r ⟨a1, a2, a3, a4, a5⟩
        refine ⟨a1, a2, a3, a4, fun i j hij => ?_⟩
        obtain ⟨b1, b2, b3, b4⟩ := mHo_f hij
        rw [a5 i j hij]
        exact i3 i j b1 b2 (by omega) (by omega)
    · rintro f k S1 hk ⟨i1, i2⟩
      refine Or.inr ?_
      have i3 : ∀ i j, i ≠ 42 → i ≠ 43 → ¬ (i = 32 ∧ j < 6) → ¬ (i = 99 ∧ (j = 44 ∨ j = 45)) → S1 i j = S i j := fun i j a1 a2 a3 a4 => (i1 i j a1 a2 a3).trans (s0 i j a4)
      have hF : fX12_anHour_h15 N (f + 1) (nI k) S1 = if iv (drZ Z k (nI h) we d) = 0 then fX12_anHour_b44 N (fX12_anHour_h15 N f) (nI k) S1 else fX12_anHour_b36 N (fX12_anHour_h15 N f) (nI k) S1 := by
        show fX12_anHour_b15 N (fX12_anHour_h15 N f) (nI k) S1 = _
        unfold fX12_anHour_b15
        rw [i1 5 0 (by omega) (by omega) (by omega), s0 5 0 (by omega), hM.1, if_neg (nI_ge hk (by omega))]
        unfold fX12_anHour_b25
        rw [i1 99 44 (by omega) (by omega) (by omega), h44, bnd_t m_isOf, hbt k hk]
      obtain ⟨N3, hN3⟩ : ∃ z, N = z + 3 := ⟨N - 3, by omega⟩
      have skip : fX12_anHour_b45 N (fX12_anHour_h15 N f) (nI k) (-1) S1 = fX12_anHour_h15 N f (nI (k + 1)) S1 := by
        unfold fX12_anHour_b45
        have : ∀ M, fX12_anHour_h48 N (fX12_anHour_h15 N f) (M + 1) (nI k) (-1) 0 S1 = fX12_anHour_h15 N f (nI (k + 1)) S1 := by
          intro M
          show fX12_anHour_b48 N (fX12_anHour_h15 N f) _ (nI k) (-1) 0 S1 = _
          unfold fX12_anHour_b48
          rw [if_pos rfl]
          unfold fX12_anHour_b74
          rw [nI_1]
        have h9 := this (N - 1)
        rw [show N - 1 + 1 = N by omega] at h9
        exact h9
      have keepI : ∀ (hno : ∀ g, g < tn1 Z → qk (qs g) = k → sn1 Z (e g) d we (nI h) (qs g) = (qs g).1), (∀ i j, i ≠ 42 → i ≠ 43 → ¬ (i = 32 ∧ j < 6) → S1 i j = S0 i j) ∧ ∀ g, g < tn1 Z → S1 32 g = if qk (qs g) < k + 1 then sn1 Z (e g) d we (nI h) (qs g) else (qs g).1 := by
        intro hno
        refine ⟨i1, fun g hg => ?_⟩
        rw [i2 g hg]
        by_cases h8 : qk (qs g) < k
        · rw [if_pos h8, if_pos (by omega)]
        · rw [if_neg h8]
          by_cases h7 : qk (qs g) = k
          · rw [if_pos (by omega), hno g hg h7]
          · rw [if_neg (by omega)]
      cases hdr : drZ Z k (nI h) we d with
      | false =>
        refine ⟨S1, keepI (fun g hg hqk => ?_), ?_⟩
        · unfold sn1
          by_cases h9 : (qs g).2.2.2 = -1
          · rw [if_pos h9]
          · rw [if_neg h9, hqk, hdr]
            rfl
        · show fX12_anHour_h15 N (f + 1) (nI k) S1 = _
          rw [hF, hdr]
          exact skip
      | true =>
        have hF2 : fX12_anHour_h15 N (f + 1) (nI k) S1 = fX12_anHour_b45 N (fX12_anHour_h15 N f) (nI k) (hoR (S1 35) (nI k) (tn1 Z) 0) S1 := by
          rw [hF, hdr]
          show fX12_anHour_b36 N (fX12_anHour_h15 N f) (nI k) S1 = _
          unfold fX12_anHour_b36
          rw [bnd_t (m_hirerOf (by rw [i3 5 1 (by omega) (by omega) (by omega) (by omega)]; exact hM.2.1) z6 (by omega))]
        have r35 : ∀ g, g < tn1 Z → S1 35 g = (qs g).2.2.2 := fun g hg => by
          rw [i3 35 g (by omega) (by omega) (by omega) (by omega)]
          exact (R g hg).2.2.2
        have hq3 : ∀ g, g < tn1 Z → qk (qs g) = k → (qs g).2.2.2 = -1 ∨ (qs g).2.2.2 = nI k := by
          intro g hg hqk
          rcases qo g hg with h9 | ⟨k', hk', h9⟩
          · exact Or.inl h9
          · unfold qk at hqk
            rw [h9, nI_clamp (by omega)] at hqk
            exact Or.inr (by rw [h9, hqk])
        rcases hoR_cases (r := S1 35) (x := nI k) (tn1 Z) 0 with ⟨o1, o2⟩ | ⟨g0, -, g1, o2, o1⟩
        · refine ⟨S1, keepI (fun g hg hqk => ?_), ?_⟩
          · unfold sn1
            rcases hq3 g hg hqk with h9 | h9
            · rw [if_pos h9]
            · exact absurd ((r35 g hg).trans h9) (o2 g (by omega) (by omega))
          · show fX12_anHour_h15 N (f + 1) (nI k) S1 = _
            rw [hF2, o1]
            exact skip
        · have hg0 : g0 < tn1 Z := by omega
          have hk0 : (qs g0).2.2.2 = nI k := (r35 g0 hg0).symm.trans o2
          have hkk : qk (qs g0) = k := by
            unfold qk
            rw [hk0, nI_clamp (by omega)]
          obtain ⟨S2, t1, t2, t3⟩ := m_pr48 (N := N) (f := N3) (g := g0) (k := k) (h := h) (we := we) (S := S1) (r := fX12_anHour_h15 N f) Zk (hM.on (fun i j a1 a2 => i3 i j (by omega) (by omega) (by omega) (by omega))) (by omega) hk o2 (by rw [i3 99 37 (by omega) (by omega) (by omega) (by omega)]; exact hh) (by omega) (by
            unfold mW
            rw [i3 99 41 (by omega) (by omega) (by omega) (by omega)]
            exact hw) hN
          refine ⟨S2, ⟨fun i j a1 a2 a3 => (t3 i j a1 a2 (by omega)).trans (i1 i j a1 a2 a3), fun g hg => ?_⟩, ?_⟩
          · by_cases hgg : g = g0
            · subst hgg
              rw [t2, if_pos (by omega), i2 g hg, if_neg (by omega), i3 33 g (by omega) (by omega) (by omega) (by omega), (R g hg).2.1, i3 99 37 (by omega) (by omega) (by omega) (by omega), hh, i3 18 g (by omega) (by omega) (by omega) (by omega), he g hg]
              unfold sn1
              rw [if_neg (by rw [hk0]; exact nI_nem (by omega)), hkk, hdr, if_pos rfl]
            · rw [t3 32 g (by omega) (by omega) (by omega), i2 g hg]
              by_cases h8 : qk (qs g) < k
              · rw [if_pos h8, if_pos (by omega)]
              · rw [if_neg h8]
                by_cases h7 : qk (qs g) = k
                · rw [if_pos (by omega)]
                  unfold sn1
                  rcases hq3 g hg h7 with h9 | h9
                  · rw [if_pos h9]
                  · exact absurd (uq g g0 hg hg0 (h9.trans hk0.symm) (by rw [h9]; exact nI_nem (by omega))) hgg
                · rw [if_neg (by omega)]
          · show fX12_anHour_h15 N (f + 1) (nI k) S1 = _
            rw [hF2, o1]
            unfold fX12_anHour_b45
            rw [← hN3] at t1
            exact t1
  obtain ⟨⟨v, S'⟩, r1, r2, r3⟩ := main
  dsimp only at r2 r3
  subst r2
  refine ⟨S', ?_, r3⟩
  unfold fX12_anHour fX12_anHour_b0
  rw [bnd_t hB]
  dsimp only [lt]
  rw [← hS0]
  exact r1
end
