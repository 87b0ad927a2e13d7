/-! part 68.atogive -/
section
/-! toGive: the reference, the law -/
theorem m_toGive_h {Z S1 S2 : gS} {h n g : Nat} {d : Int32} {qs : Nat → qT} (Zk : tOK Z) (K : qsOK Z (Z 5) qs) (hg : g < tn1 Z) (h9 : h ≤ 999) (hn : n ≤ 60) (hne : ¬ (qs g).2.2.2 = -1) (M : mSit Z S1 h d (Z 5) qs) (w41 : S1 99 41 = -1) (c0 : S2 99 4 = 0) (s12 : mSame S1 S2) (E : ∀ S, (∀ j, S 46 j = S2 46 j) → oSame mQ S1 S → ∃ S4, fX12_unpack 5000 46 0 S = some (0, S4) ∧ mSame S1 S4 ∧ S4 99 4 = S 99 4 ∧ ∀ i j, S4 i j = if mPk i j = true then S1 i j else S i j) : Gv (fX12_toGive_h59 5000 5000 (nI g) (nI n) (qs g).2.2.2 (-1) 0 S2) (fun r => ansL (kpB Z (Z 5 g) d h n (qs g)) 1000 r.1 ∧ mSame S1 r.2 ∧ r.2 99 4 = 0) := by
  have z6 := Zk.2.1.2
  have hgc : (nI g).toNatClampNeg = g := nI_clamp (by omega)
  have hin : inb (nI g) 6 = true := inb_t (by omega) (by decide)
  refine loopG (A := Int32 × gS) (fun f v a => fX12_toGive_h59 5000 f (nI g) (nI n) (qs g).2.2.2 a.1 (nI v) a.2) (fun v a => mSame S1 a.2 ∧ a.2 99 4 = 0 ∧ (∀ j, a.2 46 j = S2 46 j) ∧ ((a.1 = -1 ∧ ∀ i, i < v → kpB Z (Z 5 g) d h n (qs g) i = false) ∨ (¬ a.1 = -1 ∧ ansL (kpB Z (Z 5 g) d h n (qs g)) 1000 a.1))) _ 1000 ?_ ?_ 1000 0 (-1, S2) 5000 (by omega) ⟨s12, c0, fun _ => rfl, Or.inl ⟨rfl, fun i hi => by omega⟩⟩ (by omega)
  · rintro f ⟨b, S⟩ ⟨i1, i2, i3, i4⟩
    dsimp only at i1 i2 i3 i4
    refine ⟨(b, S), ?_, ?_, i1, i2⟩
    · show fX12_toGive_b59 5000 _ (nI g) (nI n) _ b (nI 1000) S = _
      unfold fX12_toGive_b59
      rw [if_pos (by decide)]
      rfl
    · rcases i4 with ⟨q1, q2⟩ | ⟨q1, q2⟩
      · exact Or.inr ⟨q2, q1⟩
      · exact q2
  · rintro f v ⟨b, S⟩ hv ⟨i1, i2, i3, i4⟩
    dsimp only at i1 i2 i3 i4
    have h59 : ∀ c, fX12_toGive_h59 5000 (f + 1) (nI g) (nI n) (qs g).2.2.2 c (nI v) S = fX12_toGive_b67 5000 (fX12_toGive_h59 5000 f) (nI g) (nI n) (qs g).2.2.2 c (nI v) S := by
      intro c
      show fX12_toGive_b59 5000 (fX12_toGive_h59 5000 f) (nI g) (nI n) _ c (nI v) S = _
      unfold fX12_toGive_b59
      rw [if_neg (show ¬ (999 : Int32) < nI v from nI_nlt (a := 999) (by omega) (by decide))]
    rcases i4 with ⟨q1, q2⟩ | ⟨q1, q2⟩
    · subst q1
      have M' := M.on i1
      obtain ⟨m1, m2, m3, m4⟩ := M'.2.2.2.2 g hg
      have hq := puq_ok (v := v) (K.1 g hg) (by omega)
      have hu : (puq (qs g) v).2.2.2 = -1 ∨ ∀ g', g' < tn1 Z → g' ≠ g → (qs g').2.2.2 ≠ (puq (qs g) v).2.2.2 := Or.inr (fun g' hg' hx hh => hx (K.2.1 g' g hg' hg hh (fun q => hne (hh.symm.trans q))))
      have M2 : mSit Z (sU S 33 g (nI v)) h d (Z 5) (upq qs g (puq (qs g) v)) := M'.up (fun i j hij => sU_n (by omega)) (by rw [sU_n (by omega)]; exact m1) sU_s (by rw [sU_n (by omega)]; exact m3) (by rw [sU_n (by omega)]; exact m4)
      have s35 : oSame mHo S (sU S 33 g (nI v)) := mHo_of (g := g) (by omega) (fun i j hij => sU_n (by omega))
      obtain ⟨S3, r1, r2, r3⟩ := m_goOn (N := 5000) (n := n) Zk (K.up hq hu).h (by omega) (by decide) (by omega) M2 (by rw [s35 99 41 rfl, i1 99 41 rfl]; exact w41)
      obtain ⟨S4, u1, u2, u3, u4⟩ := E S3 (fun j => by rw [r3 46 j rfl, s35 46 j rfl]; exact i3 j) (i1.q.tr (s35.q.tr r3.q))
      have e35 : S3 35 g = (trj Z (Z 5 g) d (wetZ Z) h (puq (qs g) v) n).2.2.2 := by
        have := (r2.2.2.2.2 g hg).2.2.2
        rw [this]
        dsimp only
        rw [upq_s]
      have k4 : S4 99 4 = 0 := by rw [u3, r3 99 4 rfl, s35 99 4 rfl]; exact i2
      have k46 : ∀ j, S4 46 j = S2 46 j := fun j => by
        rw [u4 46 j]
        show S3 46 j = S2 46 j
        rw [r3 46 j rfl, s35 46 j rfl]; exact i3 j
      have hF : fX12_toGive_h59 5000 (f + 1) (nI g) (nI n) (qs g).2.2.2 (-1) (nI v) S = if (trj Z (Z 5 g) d (wetZ Z) h (puq (qs g) v) n).2.2.2 = (qs g).2.2.2 then fX12_toGive_h59 5000 f (nI g) (nI n) (qs g).2.2.2 (nI v) (nI (v + 1)) S4 else fX12_toGive_h59 5000 f (nI g) (nI n) (qs g).2.2.2 (-1) (nI (v + 1)) S4 := by
        rw [h59]
        unfold fX12_toGive_b67
        rw [if_pos rfl]
        unfold fX12_toGive_b73
        rw [if_neg hne]
        unfold fX12_toGive_b78
        dsimp only [lt]
        rw [chk_t hin, hgc, bnd_t r1]
        dsimp only
        rw [chk_t hin]
        simp only [e35]
        by_cases hq : (trj Z (Z 5 g) d (wetZ Z) h (puq (qs g) v) n).2.2.2 = (qs g).2.2.2
        · rw [if_pos hq, if_pos hq]
          unfold fX12_toGive_b101 fX12_toGive_b105
          rw [bnd_t u1, nI_1]
        · rw [if_neg hq, if_neg hq]
          unfold fX12_toGive_b105
          rw [bnd_t u1, nI_1]
      by_cases hz : (trj Z (Z 5 g) d (wetZ Z) h (puq (qs g) v) n).2.2.2 = -1
      · have hz2 : ¬ (trj Z (Z 5 g) d (wetZ Z) h (puq (qs g) v) n).2.2.2 = (qs g).2.2.2 := fun q => hne (q.symm.trans hz)
        refine Or.inr ⟨(-1, S4), ⟨u2, k4, k46, Or.inl ⟨rfl, fun i hi => ?_⟩⟩, ?_⟩
        · by_cases hi2 : i = v
          · rw [hi2]; exact decide_eq_false (fun q => q hz)
          · exact q2 i (by omega)
        · show fX12_toGive_h59 5000 (f + 1) (nI g) (nI n) (qs g).2.2.2 (-1) (nI v) S = _
          rw [hF, if_neg hz2]
      · have hz2 : (trj Z (Z 5 g) d (wetZ Z) h (puq (qs g) v) n).2.2.2 = (qs g).2.2.2 := by
          rcases trj_hired (Z := Z) (e := Z 5 g) (d := d) (wf := wetZ Z) (h := h) (q := puq (qs g) v) n with q | q
          · exact absurd q hz
          · exact q
        refine Or.inr ⟨(nI v, S4), ⟨u2, k4, k46, Or.inr ⟨nI_nem (by omega), Or.inl ⟨v, hv, decide_eq_true hz, q2, rfl⟩⟩⟩, ?_⟩
        show fX12_toGive_h59 5000 (f + 1) (nI g) (nI n) (qs g).2.2.2 (-1) (nI v) S = _
        rw [hF, if_pos hz2]
    · refine Or.inl ⟨(b, S), ?_, q2, i1, i2⟩
      show fX12_toGive_h59 5000 (f + 1) (nI g) (nI n) (qs g).2.2.2 b (nI v) S = _
      rw [h59]
      unfold fX12_toGive_b67
      rw [if_neg q1]
      rfl
theorem st_toGive : Lw_toGive JJ := by
  intro SX SM x1 x2 hJ
  obtain ⟨S1, Z, h, qs, hS1, c0, hJ1, Zk, h9, C, M, K, w41, x0, x5⟩ := pre hJ
  have z6 := Zk.2.1.2
  have hF : fX12_toGive 5000 x1 x2 SM = if iv (inb x1 (tn1 Z)) = 0 then fX12_toGive_b13 5000 S1 else if iv (wth x2 1 60) = 0 then fX12_toGive_b31 5000 S1 else fX12_toGive_b37 5000 x1 x2 S1 := by
    unfold fX12_toGive fX12_toGive_b0
    dsimp only [lt]
    rw [← hS1, bnd_t (m_isGuild M.1.2.1 (by omega))]
    unfold fX12_toGive_b19
    rw [bnd_t in_1_60]
  cases h1 : inb x1 (tn1 Z) with
  | false =>
    refine stFl 5000 5000 1 hJ one_ne (Or.inr (Or.inl rfl)) (ngF x5 (by omega) h1) ?_
    show fX12_toGive 5000 x1 x2 SM = _
    rw [hF, h1, ← hS1]
    rfl
  | true =>
  cases h2 : wth x2 1 60 with
  | false =>
    refine stFl 5000 5000 2 hJ two_ne (Or.inr (Or.inr rfl)) ((ngT x5 (by omega) h1).trans (niF h2)) ?_
    show fX12_toGive 5000 x1 x2 SM = _
    rw [hF, h1, h2, ← hS1]
    rfl
  | true =>
  obtain ⟨g, hg, rfl⟩ := inb_of h1 (by omega)
  obtain ⟨n, -, n2, rfl⟩ := wth_of (a := 1) (b := 60) (by decide) (by decide) h2
  have hgc : (nI g).toNatClampNeg = g := nI_clamp (by omega)
  have hin : inb (nI g) 6 = true := inb_t (by omega) (by decide)
  obtain ⟨S2, k1, k2, k3, k5, k7, k6, k4⟩ := q_go M w41 c0
  have hX : fX11_toGive 5000 (nI g) (nI n) SX = if (qs g).2.2.2 = -1 then fX11_toGive_b28 5000 SX else fX11_toGive_b30 5000 (nI g) (nI n) SX := by
    refine (ngT x5 (by omega) h1).trans ((niT h2).trans ?_)
    dsimp only
    rw [chk_t hin, hgc]
    simp only [show SX 25 g = (qs g).2.2.2 from (C.2.2.2 g hg).2.2.2]
  have hM : fX12_toGive 5000 (nI g) (nI n) SM = fX12_toGive_h59 5000 5000 (nI g) (nI n) (qs g).2.2.2 (-1) 0 S2 := by
    rw [hF, h1, h2]
    show fX12_toGive_b37 5000 (nI g) (nI n) S1 = _
    unfold fX12_toGive_b37
    rw [chk_t hin, bnd_t k1, hgc, (M.2.2.2.2 g hg).2.2.2]
  by_cases hne : (qs g).2.2.2 = -1
  · refine stSu 5000 5000 (-1) hJ rfl (Or.inl rfl) ⟨(0, -1, SX), ?_, rfl, rfl, xSame.rf⟩ ⟨(-1, S2), ?_, rfl, by rw [← hS1]; exact k5, k7⟩
    · show fX11_toGive 5000 (nI g) (nI n) SX = _
      rw [hX, if_pos hne]
      rfl
    · show fX12_toGive 5000 (nI g) (nI n) SM = _
      rw [hM]
      show fX12_toGive_b59 5000 _ (nI g) (nI n) _ (-1) 0 S2 = _
      unfold fX12_toGive_b59
      rw [if_neg (by decide)]
      unfold fX12_toGive_b67
      rw [if_pos rfl]
      unfold fX12_toGive_b73
      rw [if_pos hne]
      rfl
  · refine stSr 5000 5000 (ansL (kpB Z (Z 5 g) (SX 21 1) h n (qs g)) 1000) ansL.u hJ rfl (Or.inl rfl) ?_ ?_
    · obtain ⟨b1, e1, f1⟩ := x_minds (N := 5000) (k0 := xtw SX + 10) (m := tnp Z) (S := SX) ((C.1 10 3 (by omega) (by omega)).trans Zk.2.2.2.2.2.2.1.1) Zk.2.2.2.2.2.2.1.2.1 (by decide)
      obtain ⟨b2, e2, f2⟩ := x_minds (N := 5000) (k0 := xtw SX + 13) (m := tnc Z) (S := SX) ((C.1 13 3 (by omega) (by omega)).trans Zk.2.2.2.2.2.2.2.1) Zk.2.2.2.2.2.2.2.2.1 (by decide)
      obtain ⟨v, X2, a1, a2, a3⟩ := x_leastAll (n := n) Zk C K hg h9 n2 oSame.rf
      have all : fX11_toGive_b62 5000 (nI g) (nI n) SX = some (0, v, X2) := by
        unfold fX11_toGive_b62
        rw [bnd_t a1]
      have hX2 : fX11_toGive 5000 (nI g) (nI n) SX = if iv b1 = 0 then (if iv b2 = 0 then fX11_toGive_b69 5000 (nI g) (nI n) SX else fX11_toGive_b62 5000 (nI g) (nI n) SX) else fX11_toGive_b62 5000 (nI g) (nI n) SX := by
        rw [hX, if_neg hne]
        unfold fX11_toGive_b30
        dsimp only [lt]
        rw [bnd_t e1]
        unfold fX11_toGive_b46
        dsimp only [lt]
        rw [bnd_t e2]
      show Gv (fX11_toGive 5000 (nI g) (nI n) SX) _
      rw [hX2]
      cases b1 with
      | true =>
        rw [if_neg (show ¬ iv true = 0 by decide), all]
        exact ⟨_, rfl, rfl, a2, xWk.same a3⟩
      | false =>
        rw [if_pos (show iv false = 0 from rfl)]
        cases b2 with
        | true =>
          rw [if_neg (show ¬ iv true = 0 by decide), all]
          exact ⟨_, rfl, rfl, a2, xWk.same a3⟩
        | false =>
          rw [if_pos (show iv false = 0 from rfl)]
          have np : noPu Z := ⟨fun j hj => by rw [← C.1 11 j (by omega) (by omega)]; exact f1 rfl j hj, fun j hj => by rw [← C.1 14 j (by omega) (by omega)]; exact f2 rfl j hj⟩
          obtain ⟨v', X3, d1, d2, d3⟩ := x_leastHalf (n := n) Zk C K hg h9 n2 (kp_mono Zk np (K.2.2 g hg)) oSame.rf
          refine ⟨(0, v', X3), ?_, rfl, d2, xWk.same d3⟩
          unfold fX11_toGive_b69
          rw [bnd_t d1]
    · show Gv (fX12_toGive 5000 (nI g) (nI n) SM) _
      rw [hM, ← hS1]
      exact m_toGive_h Zk K hg h9 n2 hne M w41 k7 k5 k6
end
