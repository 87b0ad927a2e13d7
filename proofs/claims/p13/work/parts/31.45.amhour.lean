/-! the reference's HOUR -/
noncomputable def mRu (i _j : Nat) : Bool := i == 42 || i == 43
def hOK (n0 : Nat) (q : qT) : Prop := q.2.2.2 = -1 ∨ ∃ k : Nat, k < n0 ∧ q.2.2.2 = nI k
def mW (Z S : gS) (we : Int32) (h : Nat) : Prop := (S 99 41 = we ∧ ¬ we = -1) ∨ (S 99 41 = -1 ∧ we = wetZ Z h)
theorem m_wetW {N h : Nat} {Z S : gS} {we : Int32} (Zk : tOK Z) (hM : tM Z S) (hh : S 99 37 = nI h) (hb : h < 2 ^ 31) (hw : mW Z S we h) : fX12_wetOf N S = some (we, S) := by
  rcases hw with ⟨h1, h2⟩ | ⟨h1, h2⟩
  · rw [m_wetOf2 (by rw [h1]; exact h2), h1]
  · rw [m_wetOf hM.2.2.2.1 Zk.2.2.1.2.1 hb hh h1, h2]
    unfold wetZ
    rw [wetS_eq (r := S 14) (r' := Z 9) (fun i hi => hM.2.2.2.2.2.2.1 i hi)]
theorem mRu_f {i j : Nat} (h : i ≠ 42) (h' : i ≠ 43) : mRu i j = false := by
  unfold mRu
  rw [beq_false_of_ne h, beq_false_of_ne h']
  rfl
section
variable {N g k h : Nat} {Z S : gS} {we : Int32}
theorem m_ruleOf {nd n : Nat} {c : Nat → Int32} (Zk : tOK Z) (hM : tM Z S) (hg : g < 6) (hk : k < tn0 Z) (h35 : S 35 g = nI k) (hh : S 99 37 = nI h) (hb : h < 2 ^ 31) (hw : mW Z S we h) (hnd : nd = 15 ∨ nd = 16) (h7 : n ≤ 700) (h0 : n ≠ 0) (ok : rOK c n) (hc : ∀ i, i < n → S nd i = sgn (c i)) (hN : 700 < N) : ∃ S', fX12_ruleOf N nd (nI n) (nI g) S = some (rV c n (env Z k (S 32 g) (S 33 g) we (S 99 37) (S 18 g)), S') ∧ oSame mRu S S' := by
  have z8 := Zk.1.2
  have hgc : (nI g).toNatClampNeg = g := nI_clamp (by omega)
  have hkc : (nI k).toNatClampNeg = k := nI_clamp (by omega)
  have hin : inb (nI g) 6 = true := inb_t hg (by decide)
  have hik : inb (nI k) 16 = true := inb_t (by omega) (by decide)
  obtain ⟨S1, e1⟩ : ∃ z, z = sU S 42 0 (S 32 g) := ⟨_, rfl⟩
  have s1 : ∀ i j, i ≠ 42 → S1 i j = S i j := fun i j hi => by rw [e1, sU_n (by omega)]
  obtain ⟨S2, e2⟩ : ∃ z, z = sU S1 42 1 (S 33 g) := ⟨_, rfl⟩
  have s2 : ∀ i j, i ≠ 42 → S2 i j = S i j := fun i j hi => by rw [e2, sU_n (by omega), s1 i j hi]
  obtain ⟨S3, e3⟩ : ∃ z, z = sU S2 42 2 (S 7 k) := ⟨_, rfl⟩
  have s3 : ∀ i j, i ≠ 42 → S3 i j = S i j := fun i j hi => by rw [e3, sU_n (by omega), s2 i j hi]
  obtain ⟨S4, e4⟩ : ∃ z, z = sU S3 42 3 (S 9 k) := ⟨_, rfl⟩
  have s4 : ∀ i j, i ≠ 42 → S4 i j = S i j := fun i j hi => by rw [e4, sU_n (by omega), s3 i j hi]
  obtain ⟨S6, e6⟩ : ∃ z, z = sU S4 42 4 we := ⟨_, rfl⟩
  have s6 : ∀ i j, i ≠ 42 → S6 i j = S i j := fun i j hi => by rw [e6, sU_n (by omega), s4 i j hi]
  obtain ⟨S7, e7⟩ : ∃ z, z = sU S6 42 5 (S 99 37) := ⟨_, rfl⟩
  have s7 : ∀ i j, i ≠ 42 → S7 i j = S i j := fun i j hi => by rw [e7, sU_n (by omega), s6 i j hi]
  obtain ⟨S8, e8⟩ : ∃ z, z = sU S7 42 6 (S 18 g) := ⟨_, rfl⟩
  have s8 : ∀ i j, i ≠ 42 → S8 i j = S i j := fun i j hi => by rw [e8, sU_n (by omega), s7 i j hi]
  have hW4 : fX12_wetOf N S4 = some (we, S4) := m_wetW Zk (hM.on (fun i j h1 h2 => s4 i j (by omega))) (by rw [s4 99 37 (by omega)]; exact hh) hb (by
    unfold mW
    rw [s4 99 41 (by omega)]
    exact hw)
  obtain ⟨r, hr⟩ := m_valueNow (N := N) (S := S8) (nd := nd) (by omega) (by rcases hnd with rfl | rfl <;> rfl) h7 h0 ok (fun i hi => by rw [s8 nd i (by omega)]; exact hc i hi) hN
  refine ⟨sN S8 43 r, ?_, ?_⟩
  · unfold fX12_ruleOf fX12_ruleOf_b0
    dsimp only [lt]
    rw [hgc, chk_t hin, ← e1, chk_t hin, s1 33 g (by omega), ← e2, chk_t hin, s2 35 g (by omega), h35, hkc, chk_t hik, s2 7 k (by omega), ← e3, chk_t hin, s3 35 g (by omega), h35, hkc, chk_t hik, s3 9 k (by omega), ← e4, bnd_t hW4]
    dsimp only
    rw [← e6, s6 99 37 (by omega), ← e7, chk_t hin, s7 18 g (by omega), ← e8, bnd_t hr]
    dsimp only
    refine congrArg (fun z => some (z, sN S8 43 r)) (rV_env2 ok (fun i hi => ?_))
    have a6 : S8 42 6 = S 18 g := by rw [e8, sU_s]
    have a5 : S8 42 5 = S 99 37 := by rw [e8, sU_n (by omega), e7, sU_s]
    have a4 : S8 42 4 = we := by rw [e8, sU_n (by omega), e7, sU_n (by omega), e6, sU_s]
    have a3 : S8 42 3 = S 9 k := by rw [e8, sU_n (by omega), e7, sU_n (by omega), e6, sU_n (by omega), e4, sU_s]
    have a2 : S8 42 2 = S 7 k := by rw [e8, sU_n (by omega), e7, sU_n (by omega), e6, sU_n (by omega), e4, sU_n (by omega), e3, sU_s]
    have a1 : S8 42 1 = S 33 g := by rw [e8, sU_n (by omega), e7, sU_n (by omega), e6, sU_n (by omega), e4, sU_n (by omega), e3, sU_n (by omega), e2, sU_s]
    have a0 : S8 42 0 = S 32 g := by rw [e8, sU_n (by omega), e7, sU_n (by omega), e6, sU_n (by omega), e4, sU_n (by omega), e3, sU_n (by omega), e2, sU_n (by omega), e1, sU_s]
    obtain ⟨m1, m2, m3, m4⟩ := hM.2.2.2.2.2.2.2.1 k hk
    rcases (show i = 0 ∨ i = 1 ∨ i = 2 ∨ i = 3 ∨ i = 4 ∨ i = 5 ∨ i = 6 by omega) with rfl | rfl | rfl | rfl | rfl | rfl | rfl
    · exact a0
    · exact a1
    · exact a2.trans m1
    · exact a3.trans m3
    · exact a4
    · exact a5
    · exact a6
  · intro i j hij
    have h2 : i ≠ 42 := fun q => by rw [q] at hij; cases hij
    have h3 : i ≠ 43 := fun q => by rw [q] at hij; cases hij
    rw [sN_n h3, s8 i j h2]
theorem m_pray (Zk : tOK Z) (hM : tM Z S) (hg : g < 6) (hk : k < tn0 Z) (h35 : S 35 g = nI k) (hh : S 99 37 = nI h) (hb : h < 2 ^ 31) (hw : mW Z S we h) (hN : 700 < N) : ∃ S', fX12_pray N (nI g) S = some (0, sU S' 32 g (prZ Z k (S 32 g) (S 33 g) we (S 99 37) (S 18 g))) ∧ oSame mRu S S' := by
  have hgc : (nI g).toNatClampNeg = g := nI_clamp (by omega)
  have hin : inb (nI g) 6 = true := inb_t hg (by decide)
  obtain ⟨-, -, -, -, -, -, ⟨p1, p2, p3⟩, -⟩ := id Zk
  have h54 := hM.2.2.2.2.1
  unfold fX12_pray fX12_pray_b0
  rw [h54]
  have key : ∀ v S', oSame mRu S S' → fX12_pray_b28 N (nI g) v S' = some (0, sU S' 32 g (prS v (S 32 g))) := by
    intro v S' s
    unfold fX12_pray_b28
    rw [chk_t hin, chk_t hin, chk_t hin, hgc, s 32 g rfl]
    rfl
  by_cases h0 : tnp Z = 0
  · refine ⟨S, ?_, oSame.rf⟩
    rw [h0, if_pos (show nI 0 = 0 from rfl)]
    unfold fX12_pray_b9 prZ
    rw [key 5 S oSame.rf, if_pos h0]
  · obtain ⟨S', r1, r2⟩ := m_ruleOf (N := N) (nd := 15) (n := tnp Z) (c := Z 11) Zk hM hg hk h35 hh hb hw (Or.inl rfl) p2 h0 p3 hM.2.2.2.2.2.2.2.2.1 hN
    refine ⟨S', ?_, r2⟩
    rw [if_neg (nI_ne0 (by omega) (by omega))]
    unfold fX12_pray_b13 prZ
    rw [h54, bnd_t r1, key _ S' r2, if_neg h0]
theorem m_costsOf (Zk : tOK Z) (hM : tM Z S) (hg : g < 6) (hk : k < tn0 Z) (h35 : S 35 g = nI k) (hh : S 99 37 = nI h) (hb : h < 2 ^ 31) (hw : mW Z S we h) (hN : 700 < N) : ∃ S', fX12_costsOf N (nI g) S = some (coZ Z k (S 32 g) (S 33 g) we (S 99 37) (S 18 g), S') ∧ oSame mRu S S' := by
  have z8 := Zk.1.2
  have hgc : (nI g).toNatClampNeg = g := nI_clamp (by omega)
  have hin : inb (nI g) 6 = true := inb_t hg (by decide)
  obtain ⟨-, -, -, -, -, -, -, ⟨p1, p2, p3⟩⟩ := id Zk
  have h55 := hM.2.2.2.2.2.1
  unfold fX12_costsOf fX12_costsOf_b0
  rw [h55]
  by_cases h0 : tnc Z = 0
  · refine ⟨S, ?_, oSame.rf⟩
    rw [h0, if_pos (show nI 0 = 0 from rfl)]
    unfold fX12_costsOf_b9 coZ
    rw [chk_t hin, hgc, h35, chk_t (inb_t (by omega) (by decide)), nI_clamp (by omega), (hM.2.2.2.2.2.2.2.1 k hk).2.2.1, if_pos h0]
    rfl
  · obtain ⟨S', r1, r2⟩ := m_ruleOf (N := N) (nd := 16) (n := tnc Z) (c := Z 14) Zk hM hg hk h35 hh hb hw (Or.inr rfl) p2 h0 p3 hM.2.2.2.2.2.2.2.2.2 hN
    refine ⟨S', ?_, r2⟩
    rw [if_neg (nI_ne0 (by omega) (by omega))]
    unfold fX12_costsOf_b23 coZ
    rw [h55, bnd_t r1, if_neg h0]
    rfl
theorem m_158 {S3 : gS} {r : Int32 → gS → Option (Int32 × gS)} (hM2 : S3 5 2 = bdZ Z) (hg : g < 6) : fX12_anHour_b158 N r (nI g) S3 = r (nI (g + 1)) (if S3 32 g ≤ bdZ Z then S3 else sU (sU (sU S3 33 g (S3 33 g / 2)) 34 g (sl1 (S3 34 g))) 99 45 (S3 99 45 ||| ((1 : Int32) <<< (nI g &&& 31)))) := by
  have hgc : (nI g).toNatClampNeg = g := nI_clamp (by omega)
  have hin : inb (nI g) 6 = true := inb_t hg (by decide)
  unfold fX12_anHour_b158
  rw [chk_t hin, hgc, hM2]
  by_cases h : S3 32 g ≤ bdZ Z
  · rw [if_neg (Int32.not_lt.mpr h), if_pos h]
    unfold fX12_anHour_b173 fX12_anHour_b218
    rw [nI_1]
  · rw [if_pos (Int32.not_le.mp h), if_neg h]
    unfold fX12_anHour_b176
    dsimp only [lt]
    rw [hgc, chk_t hin, chk_t hin, chk_t hin, chk_t hin, sU_n (i := 34) (by omega), sU_n (i := 99) (by omega), sU_n (i := 99) (by omega)]
    unfold fX12_anHour_b218
    rw [nI_1]
    rfl
/-- one GUILD of the second loop -/
theorem m_92 {q : qT} {e : Int32} {r : Int32 → gS → Option (Int32 × gS)} (Zk : tOK Z) (hM : tM Z S) (hg : g < 6) (hq : hOK (tn0 Z) q) (h18 : S 18 g = e) (hh : S 99 37 = nI h) (hb : h < 2 ^ 31) (hw : mW Z S we h) (r1 : S 32 g = q.1) (r2 : S 33 g = q.2.1) (r3 : S 34 g = q.2.2.1) (r4 : S 35 g = q.2.2.2) (hN : 700 < N) :
    ∃ S', fX12_anHour_b92 N r (nI g) S = r (nI (g + 1)) S' ∧ S' 32 g = (hFin Z e we (nI h) q).2.1 ∧ S' 33 g = (hFin Z e we (nI h) q).2.2.1 ∧ S' 34 g = (hFin Z e we (nI h) q).2.2.2.1 ∧ S' 35 g = (hFin Z e we (nI h) q).2.2.2.2 ∧ S' 99 45 = (if (hFin Z e we (nI h) q).1 = true then S 99 45 ||| ((1 : Int32) <<< (nI g &&& 31)) else S 99 45) ∧ (∀ i j, i ≠ 42 → i ≠ 43 → ¬ (32 ≤ i ∧ i ≤ 35 ∧ j = g) → ¬ (i = 99 ∧ j = 45) → S' i j = S i j) := by
  have z8 := Zk.1.2
  have hgc : (nI g).toNatClampNeg = g := nI_clamp (by omega)
  have hin : inb (nI g) 6 = true := inb_t hg (by decide)
  obtain ⟨S2, e2⟩ : ∃ z, z = sU (sU S 33 g (fP e q)) 32 g (fS e q) := ⟨_, rfl⟩
  have s2 : ∀ i j, ¬ (i = 32 ∧ j = g) → ¬ (i = 33 ∧ j = g) → S2 i j = S i j := fun i j h1 h2 => by rw [e2, sU_n h1, sU_n h2]
  have v1 : S2 32 g = fS e q := by rw [e2, sU_s]
  have v2 : S2 33 g = fP e q := by rw [e2, sU_n (by omega), sU_s]
  have hb9 : fX12_anHour_b92 N r (nI g) S = if q.2.2.2 = -1 then fX12_anHour_b158 N r (nI g) S2 else fX12_anHour_b153 N r (nI g) S2 := by
    unfold fX12_anHour_b92
    dsimp only [lt]
    rw [hgc, chk_t hin, chk_t hin, chk_t hin, chk_t hin, chk_t hin, chk_t hin, chk_t hin, h18, r2, sU_n (i := 32) (by omega), sU_n (i := 18) (by omega), r1, h18]
    show (if sU (sU S 33 g (fP e q)) 32 g (fS e q) 35 g = -1 then fX12_anHour_b158 N r (nI g) (sU (sU S 33 g (fP e q)) 32 g (fS e q)) else fX12_anHour_b153 N r (nI g) (sU (sU S 33 g (fP e q)) 32 g (fS e q))) = _
    rw [← e2, s2 35 g (by omega) (by omega), r4]
  rw [hb9]
  clear hb9 e2
  have hM2 : tM Z S2 := hM.on (fun i j h1 h2 => s2 i j (by omega) (by omega))
  -- the end, from what the paying left
  have fin : ∀ S3, S3 5 2 = bdZ Z → S3 32 g = fS e q → S3 33 g = (fH Z e we (nI h) q).1 → S3 34 g = q.2.2.1 → S3 35 g = (fH Z e we (nI h) q).2 → (∀ i j, i ≠ 42 → i ≠ 43 → ¬ (32 ≤ i ∧ i ≤ 35 ∧ j = g) → S3 i j = S i j) →
      ∃ S', fX12_anHour_b158 N r (nI g) S3 = r (nI (g + 1)) S' ∧ S' 32 g = (hFin Z e we (nI h) q).2.1 ∧ S' 33 g = (hFin Z e we (nI h) q).2.2.1 ∧ S' 34 g = (hFin Z e we (nI h) q).2.2.2.1 ∧ S' 35 g = (hFin Z e we (nI h) q).2.2.2.2 ∧ S' 99 45 = (if (hFin Z e we (nI h) q).1 = true then S 99 45 ||| ((1 : Int32) <<< (nI g &&& 31)) else S 99 45) ∧ (∀ i j, i ≠ 42 → i ≠ 43 → ¬ (32 ≤ i ∧ i ≤ 35 ∧ j = g) → ¬ (i = 99 ∧ j = 45) → S' i j = S i j) := by
    intro S3 a5 a1 a2 a3 a4 as
    refine ⟨_, m_158 a5 hg, ?_⟩
    rw [a1, a2, a3, as 99 45 (by omega) (by omega) (by omega)]
    unfold hFin fB
    by_cases hs : fS e q ≤ bdZ Z
    · rw [if_pos hs, decide_eq_false (fun q => q hs)]
      exact ⟨a1, a2, a3, a4, as 99 45 (by omega) (by omega) (by omega), fun i j h1 h2 h3 _ => as i j h1 h2 h3⟩
    · rw [if_neg hs, decide_eq_true hs]
      refine ⟨?_, ?_, ?_, ?_, ?_, fun i j h1 h2 h3 h4 => ?_⟩
      · rw [sU_n (by omega), sU_n (by omega), sU_n (by omega)]; exact a1
      · rw [sU_n (by omega), sU_n (by omega), sU_s]; rfl
      · rw [sU_n (by omega), sU_s]; rfl
      · rw [sU_n (by omega), sU_n (by omega), sU_n (by omega)]; exact a4
      · rw [sU_s]; rfl
      · rw [sU_n (by omega), sU_n (by omega), sU_n (by omega)]; exact as i j h1 h2 h3
  rcases hq with h9 | ⟨k, hk, h9⟩
  · rw [if_pos h9]
    have f : fH Z e we (nI h) q = (fP e q, -1) := by unfold fH; rw [if_pos h9]
    exact fin S2 hM2.2.2.1 v1 (by rw [f]; exact v2) (by rw [s2 34 g (by omega) (by omega)]; exact r3) (by rw [f, s2 35 g (by omega) (by omega), r4]; exact h9) (fun i j h1 h2 h3 => s2 i j (by omega) (by omega))
  · have hne : ¬ q.2.2.2 = -1 := by rw [h9]; exact nI_nem (by omega)
    have hkk : qk q = k := by
      unfold qk
      rw [h9, nI_clamp (by omega)]
    rw [if_neg hne]
    obtain ⟨S3, c1, c2⟩ := m_costsOf (N := N) Zk hM2 hg hk (by rw [s2 35 g (by omega) (by omega), r4]; exact h9) (by rw [s2 99 37 (by omega) (by omega)]; exact hh) hb (by
      unfold mW
      rw [s2 99 41 (by omega) (by omega)]
      exact hw) hN
    rw [v1, v2, s2 99 37 (by omega) (by omega), s2 18 g (by omega) (by omega), hh, h18, ← hkk] at c1
    have c1 : fX12_costsOf N (nI g) S2 = some (fC Z e we (nI h) q, S3) := c1
    unfold fX12_anHour_b153 fX12_pay fX12_pay_b0
    rw [bnd_t c1]
    dsimp only
    rw [chk_t hin, hgc]
    show ∃ S', bnd (if S3 33 g < fC Z e we (nI h) q then fX12_pay_b29 N (nI g) S3 else fX12_pay_b16 N (nI g) (fC Z e we (nI h) q) S3) (fun q1 => fX12_anHour_b158 N r (nI g) q1.2) = _ ∧ _
    rw [c2 33 g rfl, v2]
    by_cases hl : fP e q < fC Z e we (nI h) q
    · rw [if_pos hl]
      unfold fX12_pay_b29
      rw [chk_t hin, hgc]
      show ∃ S', fX12_anHour_b158 N r (nI g) (sU S3 35 g (-1)) = _ ∧ _
      have f : fH Z e we (nI h) q = (fP e q, -1) := by unfold fH; rw [if_neg hne, if_pos hl]
      refine fin _ ?_ ?_ ?_ ?_ ?_ (fun i j h1 h2 h3 => ?_)
      · rw [sU_n (by omega), c2 5 2 rfl]; exact hM2.2.2.1
      · rw [sU_n (by omega), c2 32 g rfl]; exact v1
      · rw [sU_n (by omega), c2 33 g rfl, f]; exact v2
      · rw [sU_n (by omega), c2 34 g rfl, s2 34 g (by omega) (by omega)]; exact r3
      · rw [sU_s, f]
      · rw [sU_n (by omega), c2 i j (mRu_f h1 h2), s2 i j (by omega) (by omega)]
    · rw [if_neg hl]
      unfold fX12_pay_b16
      rw [chk_t hin, chk_t hin, hgc, c2 33 g rfl, v2]
      show ∃ S', fX12_anHour_b158 N r (nI g) (sU S3 33 g (fP e q - fC Z e we (nI h) q)) = _ ∧ _
      have f : fH Z e we (nI h) q = (fP e q - fC Z e we (nI h) q, q.2.2.2) := by unfold fH; rw [if_neg hne, if_neg hl]
      refine fin _ ?_ ?_ ?_ ?_ ?_ (fun i j h1 h2 h3 => ?_)
      · rw [sU_n (by omega), c2 5 2 rfl]; exact hM2.2.2.1
      · rw [sU_n (by omega), c2 32 g rfl]; exact v1
      · rw [sU_s, f]
      · rw [sU_n (by omega), c2 34 g rfl, s2 34 g (by omega) (by omega)]; exact r3
      · rw [sU_n (by omega), c2 35 g rfl, s2 35 g (by omega) (by omega), f]; exact r4
      · rw [sU_n (by omega), c2 i j (mRu_f h1 h2), s2 i j (by omega) (by omega)]
end
def rowsM (n : Nat) (S : gS) (qs : Nat → qT) : Prop := ∀ g, g < n → S 32 g = (qs g).1 ∧ S 33 g = (qs g).2.1 ∧ S 34 g = (qs g).2.2.1 ∧ S 35 g = (qs g).2.2.2
noncomputable def mHo (i j : Nat) : Bool := i == 42 || i == 43 || (32 ≤ i && i ≤ 35 && j < 6) || (i == 99 && (j == 37 || j == 44 || j == 45))
theorem mHo_f {i j : Nat} (h : mHo i j = false) : i ≠ 42 ∧ i ≠ 43 ∧ ¬ (32 ≤ i ∧ i ≤ 35 ∧ j < 6) ∧ ¬ (i = 99 ∧ (j = 37 ∨ j = 44 ∨ j = 45)) := by
  unfold mHo at h
  simp only [Bool.or_eq_false_iff, Bool.and_eq_false_iff, beq_eq_false_iff_ne, decide_eq_false_iff_not] at h
  omega
theorem drB_snoc {c : Nat → Bool} : ∀ (m k : Nat) (acc : Int32), drB c (m + 1) k acc = if c (k + m) = true then drB c m k acc ||| ((1 : Int32) <<< (nI (k + m) &&& 31)) else drB c m k acc := by
  intro m
  induction m with
  | zero => intro k acc; rfl
  | succ m ih =>
    intro k acc
    show drB c (m + 1) (k + 1) _ = _
    rw [ih (k + 1) _, show k + 1 + m = k + (m + 1) by omega]
    rfl
section
variable {N h : Nat} {Z : gS} {we : Int32} {e : Nat → Int32} {qs : Nat → qT}
/-- the second loop -/
theorem m_h82 (Zk : tOK Z) (qo : ∀ g, g < tn1 Z → hOK (tn0 Z) (qs g)) (hb : h < 2 ^ 30) (hN : 700 < N) {S0 : gS} (hM : tM Z S0) (he : ∀ g, g < tn1 Z → S0 18 g = e g) (hh : S0 99 37 = nI h) (hw : mW Z S0 we h) (R : rowsM (tn1 Z) S0 qs) (h45 : S0 99 45 = 0) :
    Gv (fX12_anHour_h82 N N 0 S0) (fun r => r.1 = 0 ∧ rowsM (tn1 Z) r.2 (fun g => (hFin Z (e g) we (nI h) (qs g)).2) ∧ r.2 99 37 = nI (h + 1) ∧ r.2 99 45 = drB (fun g => (hFin Z (e g) we (nI h) (qs g)).1) (tn1 Z) 0 0 ∧ oSame mHo S0 r.2) := by
  have z6 := Zk.2.1.2
  refine loopG (fun f g S => fX12_anHour_h82 N f (nI g) S) (fun g S => (∀ i j, i ≠ 42 → i ≠ 43 → ¬ (32 ≤ i ∧ i ≤ 35 ∧ j < 6) → ¬ (i = 99 ∧ j = 45) → S i j = S0 i j) ∧ S 99 45 = drB (fun g => (hFin Z (e g) we (nI h) (qs g)).1) g 0 0 ∧ rowsM (tn1 Z) S (fun g' => if g' < g then (hFin Z (e g') we (nI h) (qs g')).2 else qs g')) _ (tn1 Z) ?_ ?_ (tn1 Z) 0 S0 N (by omega) ⟨fun _ _ _ _ _ _ => rfl, h45, fun g hg => by dsimp only; rw [if_neg (by omega)]; exact R g hg⟩ (by omega)
  · rintro f S ⟨i1, i2, i3⟩
    show Gv (fX12_anHour_b82 N _ (nI (tn1 Z)) S) _
    unfold fX12_anHour_b82
    rw [i1 5 1 (by omega) (by omega) (by omega) (by omega), hM.2.1, if_pos (nI_le (Nat.le_refl _) (by omega))]
    refine ⟨(0, sU S 99 37 (nI (h + 1))), ?_, rfl, fun g hg => ?_, (sU_s : sU S 99 37 (nI (h + 1)) 99 37 = _), ?_, fun i j hij => ?_⟩
    · unfold fX12_anHour_b224
      dsimp only [lt]
      rw [i1 99 37 (by omega) (by omega) (by omega) (by omega), hh, nI_1]
    · dsimp only
      have := i3 g hg
      dsimp only at this
      rw [if_pos hg] at this
      rw [sU_n (by omega), sU_n (by omega), sU_n (by omega), sU_n (by omega)]
      exact this
    · dsimp only
      rw [sU_n (by omega)]
      exact i2
    · obtain ⟨a1, a2, a3, a4⟩ := mHo_f hij
      dsimp only
      rw [sU_n (by omega)]
      exact i1 i j a1 a2 a3 (by omega)
  · rintro f g S hg ⟨i1, i2, i3⟩
    refine Or.inr ?_
    obtain ⟨r1, r2, r3, r4⟩ := i3 g hg
    dsimp only at r1 r2 r3 r4
    rw [if_neg (Nat.lt_irrefl g)] at r1 r2 r3 r4
    obtain ⟨S', b1, b2, b3, b4, b5, b6, b7⟩ := m_92 (N := N) (e := e g) (q := qs g) (r := fX12_anHour_h82 N f) Zk (hM.on (fun i j h1 h2 => i1 i j (by omega) (by omega) (by omega) (by omega))) (show g < 6 by omega) (qo g hg) (by rw [i1 18 g (by omega) (by omega) (by omega) (by omega)]; exact he g hg) (by rw [i1 99 37 (by omega) (by omega) (by omega) (by omega)]; exact hh) (by omega) (by
      unfold mW
      rw [i1 99 41 (by omega) (by omega) (by omega) (by omega)]
      exact hw) r1 r2 r3 r4 hN
    refine ⟨S', ⟨fun i j h1 h2 h3 h4 => ?_, ?_, fun g' hg' => ?_⟩, ?_⟩
    · rw [b7 i j h1 h2 (by omega) h4]
      exact i1 i j h1 h2 h3 h4
    · rw [b6, i2, drB_snoc, Nat.zero_add]
    · by_cases hgg : g' = g
      · subst hgg
        dsimp only
        rw [if_pos (Nat.lt_succ_self _)]
        exact ⟨b2, b3, b4, b5⟩
      · rw [b7 32 g' (by omega) (by omega) (by omega) (by omega), b7 33 g' (by omega) (by omega) (by omega) (by omega), b7 34 g' (by omega) (by omega) (by omega) (by omega), b7 35 g' (by omega) (by omega) (by omega) (by omega)]
        have := i3 g' hg'
        dsimp only at this ⊢
        by_cases hl : g' < g
        · rw [if_pos hl] at this
          rw [if_pos (by omega)]
          exact this
        · rw [if_neg hl] at this
          rw [if_neg (by omega)]
          exact this
    · show fX12_anHour_b82 N (fX12_anHour_h82 N f) (nI g) S = _
      unfold fX12_anHour_b82
      rw [i1 5 1 (by omega) (by omega) (by omega) (by omega), hM.2.1, if_neg (nI_ge hg (by omega))]
      exact b1
end
