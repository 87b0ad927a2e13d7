/-! toHire -/
noncomputable def elH (qs : Nat → qT) (n1 g k : Nat) : Bool := decide (hoR (fun g => (qs g).2.2.2) (nI k) n1 0 = -1 ∨ hoR (fun g => (qs g).2.2.2) (nI k) n1 0 = nI g)
noncomputable def vaH (Z : gS) (d : Int32) (h c g : Nat) (q : qT) (k : Nat) : Int32 := (trj Z (Z 5 g) d (wetZ Z) h (q.1, q.2.1, q.2.2.1, nI k) c).1
noncomputable def thR (el : Nat → Bool) (va : Nat → Int32) : Nat → Int32 × Int32
  | 0 => (-1, -1)
  | k + 1 => if el k = true then (if (thR el va k).1 = -1 then (nI k, va k) else if (thR el va k).2 ≤ va k then thR el va k else (nI k, va k)) else thR el va k
theorem elH_q {Z : gS} {e : Nat → Int32} {qs : Nat → qT} {g k : Nat} (Zk : tOK Z) (K : qsOK Z e qs) (hg : g < tn1 Z) (hk : k < tn0 Z) (he : elH qs (tn1 Z) g k = true) : qOK (tn0 Z) ((qs g).1, (qs g).2.1, (qs g).2.2.1, nI k) ∧ ∀ g', g' < tn1 Z → g' ≠ g → (qs g').2.2.2 ≠ nI k := by
  have z6 := Zk.2.1.2
  have z8 := Zk.1.2
  obtain ⟨a, b, c, -⟩ := K.1 g hg
  refine ⟨⟨a, b, c, Or.inr ⟨k, hk, rfl⟩⟩, fun g' hg' hne hh => ?_⟩
  unfold elH at he
  rw [decide_eq_true_iff] at he
  rcases hoR_cases (r := fun g => (qs g).2.2.2) (x := nI k) (tn1 Z) 0 with ⟨o1, o2⟩ | ⟨g0, -, g1, o2, o1⟩
  · exact o2 g' (by omega) (by omega) hh
  · have e1 : g0 = g' := K.2.1 g0 g' (by omega) hg' (o2.trans hh.symm) (by
      rw [o2]
      exact nI_nem (by omega))
    rw [o1] at he
    rcases he with he | he
    · exact nI_nem (by omega) he
    · have := (nI_eq (by omega) (by omega)).mp he
      omega
theorem x_toHire_h {Z SX : gS} {h c g : Nat} {d x3 : Int32} {qs : Nat → qT} (Zk : tOK Z) (C : cSit 21 Z SX h d qs) (K : qsOK Z (Z 5) qs) (hg : g < tn1 Z) (h9 : h ≤ 999) (hc : c ≤ 60) : Gv (fX11_toHire_h26 5000 5000 (nI g) (nI c) x3 (-1) (-1) 0 SX) (fun r => r.1 = 0 ∧ r.2.1 = (if x3 = 0 then (thR (elH qs (tn1 Z) g) (vaH Z d h c g (qs g)) (tn0 Z)).1 else (thR (elH qs (tn1 Z) g) (vaH Z d h c g (qs g)) (tn0 Z)).2) ∧ xSame SX r.2.2) := by
  have z6 := Zk.2.1.2
  have z8 := Zk.1.2
  refine loopG (A := gS) (fun f k S => fX11_toHire_h26 5000 f (nI g) (nI c) x3 (thR (elH qs (tn1 Z) g) (vaH Z d h c g (qs g)) k).1 (thR (elH qs (tn1 Z) g) (vaH Z d h c g (qs g)) k).2 (nI k) S) (fun k S => oSame xWk SX S) _ (tn0 Z) ?_ ?_ (tn0 Z) 0 SX 5000 (by omega) oSame.rf (by omega)
  · intro f S i1
    refine ⟨(0, (if x3 = 0 then (thR (elH qs (tn1 Z) g) (vaH Z d h c g (qs g)) (tn0 Z)).1 else (thR (elH qs (tn1 Z) g) (vaH Z d h c g (qs g)) (tn0 Z)).2), S), ?_, rfl, rfl, xWk.same i1⟩
    show fX11_toHire_b26 5000 _ (nI g) (nI c) x3 _ _ (nI (tn0 Z)) S = _
    unfold fX11_toHire_b26
    dsimp only [lt]
    have C' := C.on (Or.inl rfl) i1
    rw [show S (xtw S) 0 = nI (tn0 Z) from (C'.1 0 0 (by omega) (by omega)).trans Zk.1.1, if_pos (nI_le (Nat.le_refl _) (by omega))]
    unfold fX11_toHire_b145
    by_cases hx : x3 = 0
    · rw [if_pos hx, if_pos hx]; rfl
    · rw [if_neg hx, if_neg hx]; rfl
  · intro f k S hk i1
    refine Or.inr ?_
    have C' := C.on (Or.inl rfl) i1
    obtain ⟨o, ho⟩ : ∃ z, z = hoR (fun g => (qs g).2.2.2) (nI k) (tn1 Z) 0 := ⟨_, rfl⟩
    obtain ⟨b, hb⟩ : ∃ z, z = (thR (elH qs (tn1 Z) g) (vaH Z d h c g (qs g)) k).1 := ⟨_, rfl⟩
    obtain ⟨s, hs⟩ : ∃ z, z = (thR (elH qs (tn1 Z) g) (vaH Z d h c g (qs g)) k).2 := ⟨_, rfl⟩
    have hF : fX11_toHire_h26 5000 (f + 1) (nI g) (nI c) x3 b s (nI k) S = if o = -1 then fX11_toHire_b68 5000 (fX11_toHire_h26 5000 f) (nI g) (nI c) x3 b s (nI k) S else if o = nI g then fX11_toHire_b68 5000 (fX11_toHire_h26 5000 f) (nI g) (nI c) x3 b s (nI k) S else fX11_toHire_b139 5000 (fX11_toHire_h26 5000 f) (nI g) (nI c) x3 b s (nI k) S := by
      show fX11_toHire_b26 5000 (fX11_toHire_h26 5000 f) (nI g) (nI c) x3 b s (nI k) S = _
      unfold fX11_toHire_b26
      dsimp only [lt]
      rw [show S (xtw S) 0 = nI (tn0 Z) from (C'.1 0 0 (by omega) (by omega)).trans Zk.1.1, if_neg (nI_ge hk (by omega))]
      unfold fX11_toHire_b38
      dsimp only [lt]
      rw [bnd_t (x_holderOf (N := 5000) (n := tn1 Z) (show S (xtw S) 5 = nI (tn1 Z) from (C'.1 0 5 (by omega) (by omega)).trans Zk.2.1.1) z6 (by decide)), hoR_eq (r := S (21 + 4)) (r' := fun g => (qs g).2.2.2) (tn1 Z) 0 (fun i _ hi => (C'.2.2.2 i (by omega)).2.2.2), ← ho]
      rfl
    cases hel : elH qs (tn1 Z) g k with
    | false =>
      refine ⟨S, i1, ?_⟩
      have he : ¬ (o = -1 ∨ o = nI g) := by
        unfold elH at hel
        rw [decide_eq_false_iff_not, ← ho] at hel
        exact hel
      have eT : thR (elH qs (tn1 Z) g) (vaH Z d h c g (qs g)) (k + 1) = thR (elH qs (tn1 Z) g) (vaH Z d h c g (qs g)) k := if_neg (by rw [hel]; decide)
      show fX11_toHire_h26 5000 (f + 1) (nI g) (nI c) x3 _ _ (nI k) S = fX11_toHire_h26 5000 f (nI g) (nI c) x3 _ _ (nI (k + 1)) S
      rw [eT, ← hb, ← hs, hF, if_neg (fun q => he (Or.inl q)), if_neg (fun q => he (Or.inr q))]
      unfold fX11_toHire_b139
      rw [nI_1]
    | true =>
      have he : o = -1 ∨ o = nI g := by
        unfold elH at hel
        rw [decide_eq_true_iff, ← ho] at hel
        exact hel
      obtain ⟨hq, -⟩ := elH_q Zk K hg hk hel
      obtain ⟨X1, b1, b2, b3⟩ := x_begin (N := 5000) (Or.inl rfl) Zk C' hg (by omega)
      have b4 : oSame xWk S (sU X1 51 4 (nI k)) := b3.up rfl
      have b5 : wkA (sU X1 51 4 (nI k)) (Z 5 g) d (nI h) ((qs g).1, (qs g).2.1, (qs g).2.2.1, nI k) := by
        obtain ⟨w0, w1, w2, w3, w4, w5, w7⟩ := b2
        refine ⟨?_, ?_, ?_, ?_, sU_s, ?_, ?_⟩ <;> rw [sU_n (by omega)] <;> assumption
      obtain ⟨X2, p1, p2, p3⟩ := x_passHours (N := 5000) (n := c) xtw_cases Zk (C'.1.on xtw_cases b4) hq (K.2.2 g hg) b5 (by omega) (by omega) (by decide)
      have hF2 : fX11_toHire_h26 5000 (f + 1) (nI g) (nI c) x3 b s (nI k) S = if b = -1 then fX11_toHire_b126 5000 (fX11_toHire_h26 5000 f) (nI g) (nI c) x3 (nI k) X2 else fX11_toHire_b114 5000 (fX11_toHire_h26 5000 f) (nI g) (nI c) x3 b s (nI k) X2 := by
        rw [hF]
        have e68 : fX11_toHire_b68 5000 (fX11_toHire_h26 5000 f) (nI g) (nI c) x3 b s (nI k) S = if b = -1 then fX11_toHire_b126 5000 (fX11_toHire_h26 5000 f) (nI g) (nI c) x3 (nI k) X2 else fX11_toHire_b114 5000 (fX11_toHire_h26 5000 f) (nI g) (nI c) x3 b s (nI k) X2 := by
          unfold fX11_toHire_b68
          dsimp only [lt]
          rw [bnd_t b1]
          dsimp only
          rw [xWk.tw b4, bnd_t p1]
        by_cases h1 : o = -1
        · rw [if_pos h1, e68]
        · rw [if_neg h1, if_pos (he.resolve_left h1), e68]
      have e51 : X2 51 1 = vaH Z d h c g (qs g) k := p2.2.1
      refine ⟨X2, (i1.tr b4).tr p3, ?_⟩
      show fX11_toHire_h26 5000 (f + 1) (nI g) (nI c) x3 _ _ (nI k) S = fX11_toHire_h26 5000 f (nI g) (nI c) x3 _ _ (nI (k + 1)) X2
      have eT : thR (elH qs (tn1 Z) g) (vaH Z d h c g (qs g)) (k + 1) = if (thR (elH qs (tn1 Z) g) (vaH Z d h c g (qs g)) k).1 = -1 then (nI k, vaH Z d h c g (qs g) k) else if (thR (elH qs (tn1 Z) g) (vaH Z d h c g (qs g)) k).2 ≤ vaH Z d h c g (qs g) k then thR (elH qs (tn1 Z) g) (vaH Z d h c g (qs g)) k else (nI k, vaH Z d h c g (qs g) k) := if_pos hel
      rw [← hb, ← hs] at eT
      rw [← hb, ← hs, hF2]
      by_cases h1 : b = -1
      · rw [if_pos h1] at eT ⊢
        rw [eT]
        unfold fX11_toHire_b126 fX11_toHire_b139
        rw [nI_1, e51]
      · rw [if_neg h1] at eT ⊢
        unfold fX11_toHire_b114
        rw [e51]
        by_cases h2 : s ≤ vaH Z d h c g (qs g) k
        · rw [if_pos h2] at eT ⊢
          rw [eT, ← hb, ← hs]
          unfold fX11_toHire_b139
          rw [nI_1]
        · rw [if_neg h2] at eT ⊢
          rw [eT]
          unfold fX11_toHire_b126 fX11_toHire_b139
          rw [nI_1, e51]
theorem i32_lt1000 {x : Int32} (h : x ≤ 99) : x < 1000 := by
  rw [Int32.lt_iff_toInt_lt]
  rw [Int32.le_iff_toInt_le] at h
  have e1 : (99 : Int32).toInt = 99 := rfl
  have e2 : (1000 : Int32).toInt = 1000 := rfl
  omega
theorem m_toHire_h {Z S1 S2 : gS} {h c g : Nat} {d x3 : Int32} {qs : Nat → qT} (Zk : tOK Z) (K : qsOK Z (Z 5) qs) (hg : g < tn1 Z) (h9 : h ≤ 999) (hc : c ≤ 60) (M : mSit Z S1 h d (Z 5) qs) (w41 : S1 99 41 = -1) (c0 : S2 99 4 = 0) (s12 : mSame S1 S2) (E : ∀ S, (∀ j, S 46 j = S2 46 j) → oSame mQ S1 S → ∃ S4, fX12_unpack 5000 46 0 S = some (0, S4) ∧ mSame S1 S4 ∧ S4 99 4 = S 99 4 ∧ ∀ i j, S4 i j = if mPk i j = true then S1 i j else S i j) : Gv (fX12_toHire_h66 5000 5000 (nI g) (nI c) x3 (-1) 1000 0 S2) (fun r => r.1 = (if x3 = 0 then (thR (elH qs (tn1 Z) g) (vaH Z d h c g (qs g)) (tn0 Z)).1 else (thR (elH qs (tn1 Z) g) (vaH Z d h c g (qs g)) (tn0 Z)).2) ∧ mSame S1 r.2 ∧ r.2 99 4 = 0) := by
  have z6 := Zk.2.1.2
  have z8 := Zk.1.2
  have hgc : (nI g).toNatClampNeg = g := nI_clamp (by omega)
  have hin : inb (nI g) 6 = true := inb_t (by omega) (by decide)
  obtain ⟨th, hth⟩ : ∃ z, z = thR (elH qs (tn1 Z) g) (vaH Z d h c g (qs g)) := ⟨_, rfl⟩
  have thm : ∀ k, k ≤ tn0 Z → (th k).1 = -1 → (th k).2 = -1 := by
    intro k
    rw [hth]
    induction k with
    | zero => intro _ _; rfl
    | succ k ih =>
      intro hk hk1
      have eT : thR (elH qs (tn1 Z) g) (vaH Z d h c g (qs g)) (k + 1) = if elH qs (tn1 Z) g k = true then (if (thR (elH qs (tn1 Z) g) (vaH Z d h c g (qs g)) k).1 = -1 then (nI k, vaH Z d h c g (qs g) k) else if (thR (elH qs (tn1 Z) g) (vaH Z d h c g (qs g)) k).2 ≤ vaH Z d h c g (qs g) k then thR (elH qs (tn1 Z) g) (vaH Z d h c g (qs g)) k else (nI k, vaH Z d h c g (qs g) k)) else thR (elH qs (tn1 Z) g) (vaH Z d h c g (qs g)) k := rfl
      by_cases he : elH qs (tn1 Z) g k = true
      · rw [if_pos he] at eT
        by_cases h1 : (thR (elH qs (tn1 Z) g) (vaH Z d h c g (qs g)) k).1 = -1
        · rw [if_pos h1] at eT
          rw [eT] at hk1
          exact absurd hk1 (nI_nem (by omega))
        · rw [if_neg h1] at eT
          by_cases h2 : (thR (elH qs (tn1 Z) g) (vaH Z d h c g (qs g)) k).2 ≤ vaH Z d h c g (qs g) k
          · rw [if_pos h2] at eT
            rw [eT] at hk1
            exact absurd hk1 h1
          · rw [if_neg h2] at eT
            rw [eT] at hk1
            exact absurd hk1 (nI_nem (by omega))
      · rw [if_neg he] at eT
        rw [eT] at hk1 ⊢
        exact ih (by omega) hk1
  rw [← hth]
  have th0 : th 0 = (-1, -1) := by
    rw [hth]
    rfl
  suffices L : Gv (fX12_toHire_h66 5000 5000 (nI g) (nI c) x3 (th 0).1 (if (th 0).1 = -1 then 1000 else (th 0).2) 0 S2) (fun r => r.1 = (if x3 = 0 then (th (tn0 Z)).1 else (th (tn0 Z)).2) ∧ mSame S1 r.2 ∧ r.2 99 4 = 0) by
    rw [th0] at L
    exact L
  refine loopG (A := gS) (fun f k S => fX12_toHire_h66 5000 f (nI g) (nI c) x3 (th k).1 (if (th k).1 = -1 then 1000 else (th k).2) (nI k) S) (fun k S => mSame S1 S ∧ S 99 4 = 0 ∧ ∀ j, S 46 j = S2 46 j) _ (tn0 Z) ?_ ?_ (tn0 Z) 0 S2 5000 (by omega) ⟨s12, c0, fun _ => rfl⟩ (by omega)
  · rintro f S ⟨i1, i2, i3⟩
    have M' := M.on i1
    refine ⟨((if x3 = 0 then (th (tn0 Z)).1 else (th (tn0 Z)).2), S), ?_, rfl, i1, i2⟩
    show fX12_toHire_b66 5000 _ (nI g) (nI c) x3 _ _ (nI (tn0 Z)) S = _
    unfold fX12_toHire_b66
    rw [M'.1.1, if_pos (nI_le (Nat.le_refl _) (by omega))]
    unfold fX12_toHire_b154
    by_cases hx : x3 = 0
    · rw [if_pos hx, if_pos hx]; rfl
    · rw [if_neg hx, if_neg hx]
      unfold fX12_toHire_b158
      by_cases h1 : (th (tn0 Z)).1 = -1
      · rw [if_pos h1, thm _ (Nat.le_refl _) h1]
        unfold fX12_toHire_b164
        rw [h1]
        rfl
      · rw [if_neg h1, if_neg h1]
        rfl
  · rintro f k S hk ⟨i1, i2, i3⟩
    have M' := M.on i1
    refine Or.inr ?_
    obtain ⟨o, ho⟩ : ∃ z, z = hoR (fun g => (qs g).2.2.2) (nI k) (tn1 Z) 0 := ⟨_, rfl⟩
    have hF : ∀ b s, fX12_toHire_h66 5000 (f + 1) (nI g) (nI c) x3 b s (nI k) S = if o = -1 then fX12_toHire_b100 5000 (fX12_toHire_h66 5000 f) (nI g) (nI c) x3 b s (nI k) S else if o = nI g then fX12_toHire_b100 5000 (fX12_toHire_h66 5000 f) (nI g) (nI c) x3 b s (nI k) S else fX12_toHire_b97 5000 (fX12_toHire_h66 5000 f) (nI g) (nI c) x3 b s (nI k) S := by
      intro b s
      show fX12_toHire_b66 5000 (fX12_toHire_h66 5000 f) (nI g) (nI c) x3 b s (nI k) S = _
      unfold fX12_toHire_b66
      rw [M'.1.1, if_neg (nI_ge hk (by omega))]
      unfold fX12_toHire_b77
      rw [bnd_t (m_hirerOf (N := 5000) (n := tn1 Z) M'.1.2.1 z6 (by decide)), hoR_eq (r := S 35) (r' := fun g => (qs g).2.2.2) (tn1 Z) 0 (fun i _ hi => (M'.2.2.2.2 i (by omega)).2.2.2), ← ho]
      rfl
    have eT : th (k + 1) = if elH qs (tn1 Z) g k = true then (if (th k).1 = -1 then (nI k, vaH Z d h c g (qs g) k) else if (th k).2 ≤ vaH Z d h c g (qs g) k then th k else (nI k, vaH Z d h c g (qs g) k)) else th k := by
      rw [hth]
      rfl
    cases hel : elH qs (tn1 Z) g k with
    | false =>
      refine ⟨S, ⟨i1, i2, i3⟩, ?_⟩
      have he : ¬ (o = -1 ∨ o = nI g) := by
        unfold elH at hel
        rw [decide_eq_false_iff_not, ← ho] at hel
        exact hel
      rw [hel, if_neg (by decide)] at eT
      show fX12_toHire_h66 5000 (f + 1) (nI g) (nI c) x3 _ _ (nI k) S = fX12_toHire_h66 5000 f (nI g) (nI c) x3 _ _ (nI (k + 1)) S
      rw [eT, hF, if_neg (fun q => he (Or.inl q)), if_neg (fun q => he (Or.inr q))]
      unfold fX12_toHire_b97 fX12_toHire_b148
      rw [nI_1]
    | true =>
      have he : o = -1 ∨ o = nI g := by
        unfold elH at hel
        rw [decide_eq_true_iff, ← ho] at hel
        exact hel
      rw [hel, if_pos rfl] at eT
      obtain ⟨hq, hu⟩ := elH_q Zk K hg hk hel
      obtain ⟨m1, m2, m3, m4⟩ := M'.2.2.2.2 g hg
      have M2 : mSit Z (sU S 35 g (nI k)) h d (Z 5) (upq qs g ((qs g).1, (qs g).2.1, (qs g).2.2.1, nI k)) := M'.up (fun i j hij => sU_n (by omega)) (by rw [sU_n (by omega)]; exact m1) (by rw [sU_n (by omega)]; exact m2) (by rw [sU_n (by omega)]; exact m3) sU_s
      have s35 : oSame mHo S (sU S 35 g (nI k)) := mHo_of (g := g) (by omega) (fun i j hij => sU_n (by omega))
      obtain ⟨S3, r1, r2, r3⟩ := m_goOn (N := 5000) (n := c) Zk (K.up hq (Or.inr hu)).h (by omega) (by decide) (by omega) M2 (by rw [s35 99 41 rfl, i1 99 41 rfl]; exact w41)
      obtain ⟨S4, u1, u2, u3, u4⟩ := E S3 (fun j => by rw [r3 46 j rfl, s35 46 j rfl]; exact i3 j) (i1.q.tr (s35.q.tr r3.q))
      have e32 : S3 32 g = vaH Z d h c g (qs g) k := by
        have := (r2.2.2.2.2 g hg).1
        rw [this]
        dsimp only
        rw [upq_s]
        rfl
      have hF2 : ∀ b s, fX12_toHire_h66 5000 (f + 1) (nI g) (nI c) x3 b s (nI k) S = if vaH Z d h c g (qs g) k < s then fX12_toHire_b140 5000 (fX12_toHire_h66 5000 f) (nI g) (nI c) x3 (nI k) (vaH Z d h c g (qs g) k) S4 else fX12_toHire_b137 5000 (fX12_toHire_h66 5000 f) (nI g) (nI c) x3 b s (nI k) S4 := by
        intro b s
        have e100 : fX12_toHire_b100 5000 (fX12_toHire_h66 5000 f) (nI g) (nI c) x3 b s (nI k) S = if vaH Z d h c g (qs g) k < s then fX12_toHire_b140 5000 (fX12_toHire_h66 5000 f) (nI g) (nI c) x3 (nI k) (vaH Z d h c g (qs g) k) S4 else fX12_toHire_b137 5000 (fX12_toHire_h66 5000 f) (nI g) (nI c) x3 b s (nI k) S4 := by
          unfold fX12_toHire_b100
          dsimp only [lt]
          rw [chk_t hin, hgc, bnd_t r1]
          dsimp only
          rw [chk_t hin, bnd_t u1]
          simp only [e32]
        rw [hF]
        by_cases h1 : o = -1
        · rw [if_pos h1, e100]
        · rw [if_neg h1, if_pos (he.resolve_left h1), e100]
      refine ⟨S4, ⟨u2, ?_, fun j => ?_⟩, ?_⟩
      · rw [u3, r3 99 4 rfl, s35 99 4 rfl]; exact i2
      · rw [u4 46 j]
        show S3 46 j = S2 46 j
        rw [r3 46 j rfl, s35 46 j rfl]; exact i3 j
      · show fX12_toHire_h66 5000 (f + 1) (nI g) (nI c) x3 _ _ (nI k) S = fX12_toHire_h66 5000 f (nI g) (nI c) x3 _ _ (nI (k + 1)) S4
        have hv : vaH Z d h c g (qs g) k < 1000 := i32_lt1000 (trj_ok (Z := Z) (d := d) (wf := wetZ Z) (h := h) hq (K.2.2 g hg) c).1.2
        rw [hF2]
        by_cases h1 : (th k).1 = -1
        · rw [if_pos h1] at eT ⊢
          rw [if_pos hv, eT, if_neg (nI_nem (by omega))]
          unfold fX12_toHire_b140 fX12_toHire_b148
          rw [nI_1]
        · rw [if_neg h1] at eT ⊢
          by_cases h2 : (th k).2 ≤ vaH Z d h c g (qs g) k
          · rw [if_pos h2] at eT
            rw [if_neg (Int32.not_lt.mpr h2), eT, if_neg h1]
            unfold fX12_toHire_b137 fX12_toHire_b148
            rw [nI_1]
          · rw [if_neg h2] at eT
            rw [if_pos (Int32.not_le.mp h2), eT, if_neg (nI_nem (by omega))]
            unfold fX12_toHire_b140 fX12_toHire_b148
            rw [nI_1]
theorem st_toHire : Lw_toHire JJ := by
  intro SX SM x1 x2 x3 hJ
  obtain ⟨S1, Z, h, qs, hS1, c0, hJ1, Zk, h9, C, M, K, w41, x0, x5⟩ := pre hJ
  have z6 := Zk.2.1.2
  have hF : fX12_toHire 5000 x1 x2 x3 SM = if iv (inb x1 (tn1 Z)) = 0 then fX12_toHire_b22 5000 S1 else fX12_toHire_b13 5000 x1 x2 x3 S1 := by
    unfold fX12_toHire fX12_toHire_b0
    dsimp only [lt]
    rw [← hS1, bnd_t (m_isGuild M.1.2.1 (by omega))]
  have hH : fX12_toHire_b28 5000 x1 x2 x3 S1 = if iv (wth x2 1 60) = 0 then fX12_toHire_b40 5000 S1 else fX12_toHire_b46 5000 x1 x2 x3 S1 := by
    unfold fX12_toHire_b28
    rw [bnd_t in_1_60]
  cases h1 : inb x1 (tn1 Z) with
  | false =>
    refine stFl 5000 5000 1 hJ one_ne (Or.inr (Or.inl rfl)) (ngF x5 (by omega) h1) ?_
    show fX12_toHire 5000 x1 x2 x3 SM = _
    rw [hF, h1, ← hS1]
    rfl
  | true =>
  cases h3 : wth x3 0 1 with
  | false =>
    refine stFl 5000 5000 1 hJ one_ne (Or.inr (Or.inl rfl)) ((ngT x5 (by omega) h1).trans (nwF h3)) ?_
    show fX12_toHire 5000 x1 x2 x3 SM = _
    rw [hF, h1, ← hS1]
    show fX12_toHire_b13 5000 x1 x2 x3 S1 = _
    unfold fX12_toHire_b13
    rcases w01F h3 with q | ⟨q1, q2⟩
    · rw [if_pos q]
      rfl
    · rw [if_neg q1]
      unfold fX12_toHire_b17
      rw [if_neg q2]
      rfl
  | true =>
  obtain ⟨y1, y2, -⟩ := w01T h3
  have hG : fX12_toHire 5000 x1 x2 x3 SM = fX12_toHire_b28 5000 x1 x2 x3 S1 := by
    rw [hF, h1]
    show fX12_toHire_b13 5000 x1 x2 x3 S1 = _
    unfold fX12_toHire_b13
    rw [if_neg y1]
    unfold fX12_toHire_b17
    rw [if_pos y2]
  cases h2 : wth x2 1 60 with
  | false =>
    refine stFl 5000 5000 2 hJ two_ne (Or.inr (Or.inr rfl)) (((ngT x5 (by omega) h1).trans (nwT h3)).trans (niF h2)) ?_
    show fX12_toHire 5000 x1 x2 x3 SM = _
    rw [hG, hH, h2, ← hS1]
    rfl
  | true =>
  obtain ⟨g, hg, rfl⟩ := inb_of h1 (by omega)
  obtain ⟨c, -, c2, rfl⟩ := wth_of (a := 1) (b := 60) (by decide) (by decide) h2
  obtain ⟨S2, k1, k2, k3, k5, k7, k6, k4⟩ := q_go M w41 c0
  refine stSu 5000 5000 (if x3 = 0 then (thR (elH qs (tn1 Z) g) (vaH Z (SX 21 1) h c g (qs g)) (tn0 Z)).1 else (thR (elH qs (tn1 Z) g) (vaH Z (SX 21 1) h c g (qs g)) (tn0 Z)).2) hJ rfl (Or.inl rfl) ?_ ?_
  · have e : fX11_toHire 5000 (nI g) (nI c) x3 SX = fX11_toHire_h26 5000 5000 (nI g) (nI c) x3 (-1) (-1) 0 SX := ((ngT x5 (by omega) h1).trans (nwT h3)).trans (niT h2)
    show Gv (fX11_toHire 5000 (nI g) (nI c) x3 SX) _
    rw [e]
    exact x_toHire_h Zk C K hg h9 c2
  · have e : fX12_toHire 5000 (nI g) (nI c) x3 SM = fX12_toHire_h66 5000 5000 (nI g) (nI c) x3 (-1) 1000 0 S2 := by
      rw [hG, hH, h2]
      show fX12_toHire_b46 5000 (nI g) (nI c) x3 S1 = _
      unfold fX12_toHire_b46
      rw [bnd_t k1]
    show Gv (fX12_toHire 5000 (nI g) (nI c) x3 SM) _
    rw [e, ← hS1]
    exact m_toHire_h Zk K hg h9 c2 M w41 k7 k5 k6
