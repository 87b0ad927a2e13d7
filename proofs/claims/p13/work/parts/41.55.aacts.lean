/-! the ACTS -/
theorem cSit.kp {Z S S' : gS} {h : Nat} {d : Int32} {qs : Nat → qT} (C : cSit 21 Z S h d qs) (s : ∀ i j, i ≠ 27 → ¬ (i = 26 ∧ j = 1) → S' i j = S i j) : cSit 21 Z S' h d qs := by
  obtain ⟨c1, c2, c3, c4⟩ := C
  have hT : xtw S' = xtw S := by
    unfold xtw
    rw [s 0 7 (by omega) (by omega)]
  refine ⟨?_, by rw [s 21 0 (by omega) (by omega)]; exact c2, by rw [s 21 1 (by omega) (by omega)]; exact c3, fun g hg => ?_⟩
  · rw [hT]
    intro i j h1 h2
    have := xtw_cases (S := S)
    rw [s (xtw S + i) j (by omega) (by omega)]
    exact c1 i j h1 h2
  · rw [s (21 + 1) g (by omega) (by omega), s (21 + 2) g (by omega) (by omega), s (21 + 3) g (by omega) (by omega), s (21 + 4) g (by omega) (by omega)]
    exact c4 g hg
theorem mSit.kp {Z S S' : gS} {h : Nat} {d : Int32} {e : Nat → Int32} {qs : Nat → qT} (M : mSit Z S h d e qs) (s : ∀ i j, i ≠ 36 → ¬ (i = 99 ∧ j = 39) → S' i j = S i j) : mSit Z S' h d e qs := by
  obtain ⟨m1, m2, m3, m4, m5⟩ := M
  refine ⟨m1.on (fun i j h1 h2 => s i j (by omega) (by omega)), fun g hg => by rw [s 18 g (by omega) (by omega)]; exact m2 g hg, by rw [s 99 37 (by omega) (by omega)]; exact m3, by rw [s 99 38 (by omega) (by omega)]; exact m4, fun g hg => ?_⟩
  rw [s 32 g (by omega) (by omega), s 33 g (by omega) (by omega), s 34 g (by omega) (by omega), s 35 g (by omega) (by omega)]
  exact m5 g hg
theorem cSit.up {nd g h : Nat} {Z S S' : gS} {d : Int32} {qs : Nat → qT} {q : qT} (hnd : nd = 21 ∨ nd = 46) (C : cSit nd Z S h d qs) (s : ∀ i j, ¬ (nd + 1 ≤ i ∧ i ≤ nd + 4 ∧ j = g) → S' i j = S i j) (r1 : S' (nd + 1) g = q.1) (r2 : S' (nd + 2) g = q.2.1) (r3 : S' (nd + 3) g = q.2.2.1) (r4 : S' (nd + 4) g = q.2.2.2) : cSit nd Z S' h d (upq qs g q) := by
  obtain ⟨c1, c2, c3, c4⟩ := C
  have hT : xtw S' = xtw S := by
    unfold xtw
    rw [s 0 7 (by omega)]
  refine ⟨?_, by rw [s nd 0 (by omega)]; exact c2, by rw [s nd 1 (by omega)]; exact c3, fun g' hg => ?_⟩
  · rw [hT]
    intro i j h1 h2
    have := xtw_cases (S := S)
    rw [s (xtw S + i) j (by omega)]
    exact c1 i j h1 h2
  · by_cases hh : g' = g
    · subst hh
      rw [upq_s]
      exact ⟨r1, r2, r3, r4⟩
    · rw [upq_n hh, s (nd + 1) g' (by omega), s (nd + 2) g' (by omega), s (nd + 3) g' (by omega), s (nd + 4) g' (by omega)]
      exact c4 g' hg
theorem xNw_of {S S' : gS} (s : ∀ i j, ¬ (21 ≤ i ∧ i ≤ 25) → S' i j = S i j) : oSame xNw S S' := by
  intro i j h
  refine s i j (fun q => ?_)
  unfold xNw at h
  rw [Bool.or_eq_false_iff] at h
  have h2 := h.2
  simp only [Bool.and_eq_false_iff, decide_eq_false_iff_not] at h2
  omega
theorem mQ_of {S S' : gS} (s : ∀ i j, ¬ (32 ≤ i ∧ i ≤ 35 ∧ j < 6) → ¬ (i = 99 ∧ (j = 37 ∨ j = 38)) → S' i j = S i j) : oSame mQ S S' := by
  intro i j h
  unfold mQ at h
  rw [Bool.or_eq_false_iff] at h
  have h2 := mt mPk_t.mpr (Bool.not_eq_true _ |>.mpr h.2)
  exact s i j (fun q => h2 (Or.inl q)) (fun q => h2 (Or.inr q))
/-- the end of an ACT that puts one GUILD's row anew -/
theorem JJ.row {SX SM Z SX' SM' : gS} {h g : Nat} {d : Int32} {qs : Nat → qT} {q : qT} (hJ : JJ SX SM) (Zk : tOK Z) (h9 : h ≤ 999) (hg : g < tn1 Z) (C : cSit 21 Z SX h d qs) (M : mSit Z SM h d (Z 5) qs) (K : qsOK Z (Z 5) (upq qs g q)) (sx : ∀ i j, ¬ (22 ≤ i ∧ i ≤ 25 ∧ j = g) → SX' i j = SX i j) (sm : ∀ i j, ¬ (32 ≤ i ∧ i ≤ 35 ∧ j = g) → SM' i j = SM i j) (a1 : SX' 22 g = q.1) (a2 : SX' 23 g = q.2.1) (a3 : SX' 24 g = q.2.2.1) (a4 : SX' 25 g = q.2.2.2) (b1 : SM' 32 g = q.1) (b2 : SM' 33 g = q.2.1) (b3 : SM' 34 g = q.2.2.1) (b4 : SM' 35 g = q.2.2.2) : JJ SX' SM' := by
  have z6 := Zk.2.1.2
  exact hJ.now (xNw_of (fun i j hij => sx i j (by omega))) (mQ_of (fun i j h1 h2 => sm i j (by omega))) Zk (C.up (Or.inl rfl) sx a1 a2 a3 a4) (M.up sm b1 b2 b3 b4) K h9
theorem st_dismiss : Lw_dismiss JJ := by
  intro SX SM x1 hJ
  obtain ⟨S1, Z, h, qs, hS1, c0, hJ1, Zk, h9, C, M, K, w41, x0, x5⟩ := pre hJ
  have z6 := Zk.2.1.2
  have hF : fX12_dismiss 5000 x1 SM = if iv (inb x1 (tn1 Z)) = 0 then fX12_dismiss_b13 5000 S1 else fX12_dismiss_b19 5000 x1 S1 := by
    unfold fX12_dismiss fX12_dismiss_b0
    dsimp only [lt]
    rw [← hS1, bnd_t (m_isGuild M.1.2.1 (by omega))]
  cases h1 : inb x1 (tn1 Z) with
  | false =>
    refine stFl 5000 5000 1 hJ one_ne (Or.inr rfl) (ngF x5 (by omega) h1) ?_
    show fX12_dismiss 5000 x1 SM = _
    rw [hF, h1, ← hS1]
    rfl
  | true =>
  obtain ⟨g, hg, rfl⟩ := inb_of h1 (by omega)
  have hgc : (nI g).toNatClampNeg = g := nI_clamp (by omega)
  have hin : inb (nI g) 6 = true := inb_t (by omega) (by decide)
  have c4 : SX 25 g = (qs g).2.2.2 := (C.2.2.2 g hg).2.2.2
  have m4 : S1 35 g = (qs g).2.2.2 := (M.2.2.2.2 g hg).2.2.2
  have hX : fX11_dismiss 5000 (nI g) SX = if (qs g).2.2.2 = -1 then fX11_dismiss_b23 5000 SX else fX11_dismiss_b32 5000 (nI g) (qs g).2.2.2 SX := by
    refine (ngT x5 (by omega) h1).trans ?_
    dsimp only
    rw [chk_t hin, hgc]
    simp only [c4]
  have hM : fX12_dismiss 5000 (nI g) SM = if (qs g).2.2.2 = -1 then fX12_dismiss_b31 5000 S1 else fX12_dismiss_b37 5000 (nI g) (qs g).2.2.2 S1 := by
    rw [hF, h1]
    show fX12_dismiss_b19 5000 (nI g) S1 = _
    unfold fX12_dismiss_b19
    rw [chk_t hin, hgc, m4]
  by_cases hn : (qs g).2.2.2 = -1
  · refine stp_ok (SX := SX) (SM := SM) (v := -1) 5000 5000 (hJ1.refuse (k := 1) (by decide)) rfl (Or.inl rfl) ?_ ?_ ?_
    · show fX11_dismiss 5000 (nI g) SX = _
      rw [hX, if_pos hn]
      unfold fX11_dismiss_b23
      rw [bnd_t (show fX1_refuse 5000 20 1 SX = _ from x_refuse (k := 1) (by decide))]
    · show fX12_dismiss 5000 (nI g) SM = _
      rw [hM, if_pos hn]
      unfold fX12_dismiss_b31
      rw [bnd_t (show fX12_refuse 5000 1 S1 = _ from m_refuse (k := 1) (by decide))]
    · rw [sU_n (by omega)]; exact c0
  · obtain ⟨X2, M2, k1, k2, kJ, kx, km⟩ := hJ1.keep
    have C2 := C.kp kx
    have M3 := M.kp km
    obtain ⟨u1, u2, u3, u4⟩ := C2.2.2.2 g hg
    obtain ⟨v1, v2, v3, v4⟩ := M3.2.2.2.2 g hg
    have hq := K.1 g hg
    refine stp_ok (SX := SX) (SM := SM) (v := (qs g).2.2.2) 5000 5000 (kJ.row (q := ((qs g).1, (qs g).2.1, (qs g).2.2.1, -1)) Zk h9 hg C2 M3 (K.up ⟨hq.1, hq.2.1, hq.2.2.1, Or.inl rfl⟩ (Or.inl rfl)) (SX' := sU X2 25 g (-1)) (SM' := sU M2 35 g (-1)) (fun i j hij => sU_n (by omega)) (fun i j hij => sU_n (by omega)) ?_ ?_ ?_ sU_s ?_ ?_ ?_ sU_s) rfl (Or.inl rfl) ?_ ?_ ?_
    · rw [sU_n (by omega)]; exact u1
    · rw [sU_n (by omega)]; exact u2
    · rw [sU_n (by omega)]; exact u3
    · rw [sU_n (by omega)]; exact v1
    · rw [sU_n (by omega)]; exact v2
    · rw [sU_n (by omega)]; exact v3
    · show fX11_dismiss 5000 (nI g) SX = _
      rw [hX, if_neg hn]
      unfold fX11_dismiss_b32
      rw [bnd_t k1]
      dsimp only [lt]
      rw [chk_t hin, hgc]
    · show fX12_dismiss 5000 (nI g) SM = _
      rw [hM, if_neg hn]
      unfold fX12_dismiss_b37
      rw [bnd_t k2]
      dsimp only [lt]
      rw [chk_t hin, hgc]
    · rw [sU_n (by omega), km 99 4 (by omega) (by omega)]; exact c0
theorem st_confess : Lw_confess JJ := by
  intro SX SM x1 hJ
  obtain ⟨S1, Z, h, qs, hS1, c0, hJ1, Zk, h9, C, M, K, w41, x0, x5⟩ := pre hJ
  have z6 := Zk.2.1.2
  have hF : fX12_confess 5000 x1 SM = if iv (inb x1 (tn1 Z)) = 0 then fX12_confess_b13 5000 S1 else fX12_confess_b19 5000 x1 S1 := by
    unfold fX12_confess fX12_confess_b0
    dsimp only [lt]
    rw [← hS1, bnd_t (m_isGuild M.1.2.1 (by omega))]
  cases h1 : inb x1 (tn1 Z) with
  | false =>
    refine stFl 5000 5000 1 hJ one_ne (Or.inr rfl) (ngF x5 (by omega) h1) ?_
    show fX12_confess 5000 x1 SM = _
    rw [hF, h1, ← hS1]
    rfl
  | true =>
  obtain ⟨g, hg, rfl⟩ := inb_of h1 (by omega)
  have hgc : (nI g).toNatClampNeg = g := nI_clamp (by omega)
  have hin : inb (nI g) 6 = true := inb_t (by omega) (by decide)
  have c4 : SX 23 g = (qs g).2.1 := (C.2.2.2 g hg).2.1
  have hX : fX11_confess 5000 (nI g) SX = if 50 ≤ (qs g).2.1 then fX11_confess_b33 5000 (nI g) SX else fX11_confess_b24 5000 SX := by
    refine (ngT x5 (by omega) h1).trans ?_
    dsimp only
    rw [chk_t hin, hgc]
    simp only [c4]
  have hM : fX12_confess 5000 (nI g) SM = if iv (decide (¬ (qs g).2.1 < 50)) = 0 then fX12_confess_b27 5000 S1 else fX12_confess_b33 5000 (nI g) S1 := by
    rw [hF, h1]
    show fX12_confess_b19 5000 (nI g) S1 = _
    unfold fX12_confess_b19
    rw [bnd_t (m_canConfess Zk M hg)]
  by_cases hn : (qs g).2.1 < 50
  · refine stp_ok (SX := SX) (SM := SM) (v := -1) 5000 5000 (hJ1.refuse (k := 1) (by decide)) rfl (Or.inl rfl) ?_ ?_ ?_
    · show fX11_confess 5000 (nI g) SX = _
      rw [hX, if_neg (Int32.not_le.mpr hn)]
      unfold fX11_confess_b24
      rw [bnd_t (show fX1_refuse 5000 20 1 SX = _ from x_refuse (k := 1) (by decide))]
    · show fX12_confess 5000 (nI g) SM = _
      rw [hM, decide_eq_false (fun q => q hn)]
      show fX12_confess_b27 5000 S1 = _
      unfold fX12_confess_b27
      rw [bnd_t (show fX12_refuse 5000 1 S1 = _ from m_refuse (k := 1) (by decide))]
    · rw [sU_n (by omega)]; exact c0
  · obtain ⟨X2, M2, k1, k2, kJ, kx, km⟩ := hJ1.keep
    have C2 := C.kp kx
    have M3 := M.kp km
    obtain ⟨u1, u2, u3, u4⟩ := C2.2.2.2 g hg
    obtain ⟨v1, v2, v3, v4⟩ := M3.2.2.2.2 g hg
    obtain ⟨M4, d1, d2, d3⟩ := m_doConfess (N := 5000) Zk M3 hg
    obtain ⟨e1, e2, e3, e4⟩ := d2.2.2.2.2 g hg
    rw [upq_s] at e1 e2 e3 e4
    refine stp_ok (SX := SX) (SM := SM) (v := (qs g).1 / 2) 5000 5000 (kJ.row (q := cfq (qs g)) Zk h9 hg C2 M3 (cfq_up K hg hn) (SX' := sU (sU X2 23 g ((qs g).2.1 - 50)) 22 g ((qs g).1 / 2)) (SM' := M4) (fun i j hij => by rw [sU_n (by omega), sU_n (by omega)]) (fun i j hij => d3 i j (by omega)) ?_ ?_ ?_ ?_ e1 e2 e3 e4) rfl (Or.inl rfl) ?_ ?_ ?_
    · rw [sU_s]; rfl
    · rw [sU_n (by omega), sU_s]; rfl
    · rw [sU_n (by omega), sU_n (by omega)]; exact u3
    · rw [sU_n (by omega), sU_n (by omega)]; exact u4
    · show fX11_confess 5000 (nI g) SX = _
      rw [hX, if_pos (Int32.not_lt.mp hn)]
      unfold fX11_confess_b33
      rw [bnd_t k1]
      dsimp only [lt]
      rw [hgc, chk_t hin, chk_t hin, chk_t hin, chk_t hin, chk_t hin, show X2 23 g = (qs g).2.1 from u2, show sU X2 23 g ((qs g).2.1 - 50) 22 g = (qs g).1 by rw [sU_n (by omega)]; exact u1, sU_s]
    · show fX12_confess 5000 (nI g) SM = _
      rw [hM, decide_eq_true hn]
      show fX12_confess_b33 5000 (nI g) S1 = _
      unfold fX12_confess_b33
      rw [bnd_t k2]
      dsimp only
      rw [bnd_t d1]
      dsimp only
      rw [chk_t hin, hgc, e1]
      rfl
    · rw [d3 99 4 (by omega), km 99 4 (by omega) (by omega)]; exact c0
theorem st_give : Lw_give JJ := by
  intro SX SM x1 x2 hJ
  obtain ⟨S1, Z, h, qs, hS1, c0, hJ1, Zk, h9, C, M, K, w41, x0, x5⟩ := pre hJ
  have z6 := Zk.2.1.2
  have hF : fX12_give 5000 x1 x2 SM = if iv (inb x1 (tn1 Z)) = 0 then fX12_give_b13 5000 S1 else fX12_give_b19 5000 x1 x2 S1 := by
    unfold fX12_give fX12_give_b0
    dsimp only [lt]
    rw [← hS1, bnd_t (m_isGuild M.1.2.1 (by omega))]
  cases h1 : inb x1 (tn1 Z) with
  | false =>
    refine stFl 5000 5000 1 hJ one_ne (Or.inr rfl) (ngF x5 (by omega) h1) ?_
    show fX12_give 5000 x1 x2 SM = _
    rw [hF, h1, ← hS1]
    rfl
  | true =>
  obtain ⟨g, hg, rfl⟩ := inb_of h1 (by omega)
  have hgc : (nI g).toNatClampNeg = g := nI_clamp (by omega)
  have hin : inb (nI g) 6 = true := inb_t (by omega) (by decide)
  have hX : fX11_give 5000 (nI g) x2 SX = if iv (wth x2 1 100) = 0 then fX11_give_b15 5000 SX else fX11_give_b24 5000 (nI g) x2 SX := by
    refine (ngT x5 (by omega) h1).trans ?_
    dsimp only
    rw [bnd_t x_isWithin]
  have hM : fX12_give 5000 (nI g) x2 SM = if iv (wth x2 1 100) = 0 then fX12_give_b31 5000 S1 else fX12_give_b37 5000 (nI g) x2 S1 := by
    rw [hF, h1]
    show fX12_give_b19 5000 (nI g) x2 S1 = _
    unfold fX12_give_b19
    rw [bnd_t in_1_100]
  cases hn : wth x2 1 100 with
  | false =>
    refine stp_ok (SX := SX) (SM := SM) (v := -1) 5000 5000 (hJ1.refuse (k := 1) (by decide)) rfl (Or.inl rfl) ?_ ?_ ?_
    · show fX11_give 5000 (nI g) x2 SX = _
      rw [hX, hn]
      show fX11_give_b15 5000 SX = _
      unfold fX11_give_b15
      rw [bnd_t (show fX1_refuse 5000 20 1 SX = _ from x_refuse (k := 1) (by decide))]
    · show fX12_give 5000 (nI g) x2 SM = _
      rw [hM, hn]
      show fX12_give_b31 5000 S1 = _
      unfold fX12_give_b31
      rw [bnd_t (show fX12_refuse 5000 1 S1 = _ from m_refuse (k := 1) (by decide))]
    · rw [sU_n (by omega)]; exact c0
  | true =>
    obtain ⟨c, c1, c2, rfl⟩ := wth_of (a := 1) (b := 100) (by decide) (by decide) hn
    obtain ⟨X2, M2, k1, k2, kJ, kx, km⟩ := hJ1.keep
    have C2 := C.kp kx
    have M3 := M.kp km
    obtain ⟨u1, u2, u3, u4⟩ := C2.2.2.2 g hg
    obtain ⟨v1, v2, v3, v4⟩ := M3.2.2.2.2 g hg
    have hq := K.1 g hg
    obtain ⟨y, hy, ey⟩ := i32_999 hq.2.1
    obtain ⟨p, hp⟩ : ∃ z, z = (if (qs g).2.1 + nI c < 999 then (qs g).2.1 + nI c else 999) := ⟨_, rfl⟩
    have hp9 : 0 ≤ p ∧ p ≤ 999 := by
      rw [hp, ey, nI_add]
      by_cases hl : nI (y + c) < 999
      · rw [if_pos hl]
        exact ⟨nI_pos' (by omega), Int32.le_of_lt hl⟩
      · rw [if_neg hl]
        decide
    have hu : (qs g).2.2.2 = -1 ∨ ∀ g', g' < tn1 Z → g' ≠ g → (qs g').2.2.2 ≠ (qs g).2.2.2 := by
      by_cases hm : (qs g).2.2.2 = -1
      · exact Or.inl hm
      · exact Or.inr (fun g' hg' hne hh => hne (K.2.1 g' g hg' hg hh (fun q => hm (hh.symm.trans q))))
    refine stp_ok (SX := SX) (SM := SM) (v := p) 5000 5000 (kJ.row (q := ((qs g).1, p, (qs g).2.2)) Zk h9 hg C2 M3 (K.up ⟨hq.1, hp9, hq.2.2⟩ hu) (SX' := sU X2 23 g p) (SM' := sU M2 33 g p) (fun i j hij => sU_n (by omega)) (fun i j hij => sU_n (by omega)) ?_ sU_s ?_ ?_ ?_ sU_s ?_ ?_) rfl (Or.inl rfl) ?_ ?_ ?_
    · rw [sU_n (by omega)]; exact u1
    · rw [sU_n (by omega)]; exact u3
    · rw [sU_n (by omega)]; exact u4
    · rw [sU_n (by omega)]; exact v1
    · rw [sU_n (by omega)]; exact v3
    · rw [sU_n (by omega)]; exact v4
    · show fX11_give 5000 (nI g) (nI c) SX = _
      rw [hX, hn]
      show fX11_give_b24 5000 (nI g) (nI c) SX = _
      unfold fX11_give_b24
      rw [bnd_t k1]
      dsimp only
      have he : fX7_enrich 5000 21 (nI g) (nI c) X2 = some (0, sU X2 23 g p) := by
        unfold fX7_enrich fX7_enrich_b0
        rw [if_neg (nI_pos (by omega))]
        unfold fX7_enrich_b4
        rw [if_neg (show ¬ (6 : Int32) ≤ nI g from nI_ge (b := 6) (by omega) (by decide))]
        unfold fX7_enrich_b13
        rw [chk_t hin, chk_t hin, hgc, show X2 (21 + 2) g = (qs g).2.1 from u2, ← hp]
        rfl
      rw [bnd_t he]
      dsimp only
      rw [chk_t hin, hgc, sU_s]
    · show fX12_give 5000 (nI g) (nI c) SM = _
      rw [hM, hn]
      show fX12_give_b37 5000 (nI g) (nI c) S1 = _
      unfold fX12_give_b37
      rw [bnd_t k2]
      dsimp only [lt]
      rw [hgc, chk_t hin, chk_t hin, chk_t hin]
      simp only [v2]
      rw [← hp, sU_s]
    · rw [sU_n (by omega), km 99 4 (by omega) (by omega)]; exact c0
theorem st_hire : Lw_hire JJ := by
  intro SX SM x1 x2 hJ
  obtain ⟨S1, Z, h, qs, hS1, c0, hJ1, Zk, h9, C, M, K, w41, x0, x5⟩ := pre hJ
  have z6 := Zk.2.1.2
  have z8 := Zk.1.2
  have hF : fX12_hire 5000 x1 x2 SM = if iv (inb x1 (tn1 Z)) = 0 then fX12_hire_b21 5000 S1 else fX12_hire_b13 5000 x1 x2 S1 := by
    unfold fX12_hire fX12_hire_b0
    dsimp only [lt]
    rw [← hS1, bnd_t (m_isGuild M.1.2.1 (by omega))]
  have hG : fX12_hire_b13 5000 x1 x2 S1 = if iv (inb x2 (tn0 Z)) = 0 then fX12_hire_b21 5000 S1 else fX12_hire_b27 5000 x1 x2 S1 := by
    unfold fX12_hire_b13
    rw [bnd_t (m_isGrotto M.1.1 (by omega))]
  cases h1 : inb x1 (tn1 Z) with
  | false =>
    refine stFl 5000 5000 1 hJ one_ne (Or.inr rfl) (ngF x5 (by omega) h1) ?_
    show fX12_hire 5000 x1 x2 SM = _
    rw [hF, h1, ← hS1]
    rfl
  | true =>
  cases h2 : inb x2 (tn0 Z) with
  | false =>
    refine stFl 5000 5000 1 hJ one_ne (Or.inr rfl) ((ngT x5 (by omega) h1).trans (nkF x0 (by omega) h2)) ?_
    show fX12_hire 5000 x1 x2 SM = _
    rw [hF, h1, ← hS1]
    show fX12_hire_b13 5000 x1 x2 S1 = _
    rw [hG, h2]
    rfl
  | true =>
  obtain ⟨g, hg, rfl⟩ := inb_of h1 (by omega)
  obtain ⟨k, hk, rfl⟩ := inb_of h2 (by omega)
  have hgc : (nI g).toNatClampNeg = g := nI_clamp (by omega)
  have hin : inb (nI g) 6 = true := inb_t (by omega) (by decide)
  obtain ⟨o, ho⟩ : ∃ z, z = hoR (fun g => (qs g).2.2.2) (nI k) (tn1 Z) 0 := ⟨_, rfl⟩
  have hX : fX11_hire 5000 (nI g) (nI k) SX = if o = -1 then fX11_hire_b40 5000 (nI g) (nI k) SX else fX11_hire_b29 5000 SX := by
    refine (ngT x5 (by omega) h1).trans ((nkT x0 (by omega) h2).trans ?_)
    dsimp only [lt]
    rw [bnd_t (x_holderOf (N := 5000) (n := tn1 Z) x5 z6 (by decide)), hoR_eq (r := SX (21 + 4)) (r' := fun g => (qs g).2.2.2) (tn1 Z) 0 (fun i _ hi => (C.2.2.2 i (by omega)).2.2.2), ← ho]
  have hM : fX12_hire 5000 (nI g) (nI k) SM = if o = -1 then fX12_hire_b41 5000 (nI g) (nI k) S1 else fX12_hire_b36 5000 S1 := by
    rw [hF, h1]
    show fX12_hire_b13 5000 (nI g) (nI k) S1 = _
    rw [hG, h2]
    show fX12_hire_b27 5000 (nI g) (nI k) S1 = _
    unfold fX12_hire_b27
    rw [bnd_t (m_hirerOf (N := 5000) (n := tn1 Z) M.1.2.1 z6 (by decide)), hoR_eq (r := S1 35) (r' := fun g => (qs g).2.2.2) (tn1 Z) 0 (fun i _ hi => (M.2.2.2.2 i (by omega)).2.2.2), ← ho]
  by_cases hn : o = -1
  · obtain ⟨X2, M2, k1, k2, kJ, kx, km⟩ := hJ1.keep
    have C2 := C.kp kx
    have M3 := M.kp km
    obtain ⟨u1, u2, u3, u4⟩ := C2.2.2.2 g hg
    obtain ⟨v1, v2, v3, v4⟩ := M3.2.2.2.2 g hg
    obtain ⟨hq, hu⟩ := elH_q (k := k) Zk K hg hk (by unfold elH; rw [← ho]; exact decide_eq_true (Or.inl hn))
    refine stp_ok (SX := SX) (SM := SM) (v := 1) 5000 5000 (kJ.row (q := ((qs g).1, (qs g).2.1, (qs g).2.2.1, nI k)) Zk h9 hg C2 M3 (K.up hq (Or.inr hu)) (SX' := sU X2 25 g (nI k)) (SM' := sU M2 35 g (nI k)) (fun i j hij => sU_n (by omega)) (fun i j hij => sU_n (by omega)) ?_ ?_ ?_ sU_s ?_ ?_ ?_ sU_s) rfl (Or.inl rfl) ?_ ?_ ?_
    · rw [sU_n (by omega)]; exact u1
    · rw [sU_n (by omega)]; exact u2
    · rw [sU_n (by omega)]; exact u3
    · rw [sU_n (by omega)]; exact v1
    · rw [sU_n (by omega)]; exact v2
    · rw [sU_n (by omega)]; exact v3
    · show fX11_hire 5000 (nI g) (nI k) SX = _
      rw [hX, if_pos hn]
      unfold fX11_hire_b40
      rw [bnd_t k1]
      dsimp only [lt]
      rw [chk_t hin, hgc]
    · show fX12_hire 5000 (nI g) (nI k) SM = _
      rw [hM, if_pos hn]
      unfold fX12_hire_b41
      rw [bnd_t k2]
      dsimp only [lt]
      rw [chk_t hin, hgc]
    · rw [sU_n (by omega), km 99 4 (by omega) (by omega)]; exact c0
  · refine stp_ok (SX := SX) (SM := SM) (v := 0) 5000 5000 (hJ1.refuse (k := 1) (by decide)) rfl (Or.inl rfl) ?_ ?_ ?_
    · show fX11_hire 5000 (nI g) (nI k) SX = _
      rw [hX, if_neg hn]
      unfold fX11_hire_b29
      rw [bnd_t (show fX1_refuse 5000 20 1 SX = _ from x_refuse (k := 1) (by decide))]
    · show fX12_hire 5000 (nI g) (nI k) SM = _
      rw [hM, if_neg hn]
      rfl
    · rw [sU_n (by omega)]; exact c0
theorem st_drain : Lw_drain JJ := by
  intro SX SM x1 x2 hJ hx2
  obtain ⟨S1, Z, h, qs, hS1, c0, hJ1, Zk, h9, C, M, K, w41, x0, x5⟩ := pre hJ
  have z8 := Zk.1.2
  have hF : fX12_drain 5000 x1 x2 SM = if iv (inb x1 (tn0 Z)) = 0 then fX12_drain_b13 5000 S1 else fX12_drain_b19 5000 x1 x2 S1 := by
    unfold fX12_drain fX12_drain_b0
    dsimp only [lt]
    rw [← hS1, bnd_t (m_isGrotto M.1.1 (by omega))]
  cases h1 : inb x1 (tn0 Z) with
  | false =>
    refine stFl 5000 5000 1 hJ one_ne (Or.inr rfl) (nkF x0 (by omega) h1) ?_
    show fX12_drain 5000 x1 x2 SM = _
    rw [hF, h1, ← hS1]
    rfl
  | true =>
  obtain ⟨d, hd⟩ : ∃ z, z = SX 21 1 := ⟨_, rfl⟩
  rw [← hd] at C M
  have hX : fX11_drain 5000 x1 x2 SX = if iv (bt d x1) = x2 then fX11_drain_b20 5000 SX else fX11_drain_b31 5000 x1 SX := by
    refine (nkT x0 (by omega) h1).trans ?_
    dsimp only
    have e : fX7_isDrained 5000 21 x1 SX = some (iv (bt d x1), SX) := by
      unfold fX7_isDrained fX7_isDrained_b0
      rw [← hd, bnd_t x_isOneOf]
      exact chk_t zb_iv
    rw [bnd_t e]
  have hM : fX12_drain 5000 x1 x2 SM = if iv (bt d x1) = x2 then fX12_drain_b31 5000 S1 else fX12_drain_b36 5000 x1 S1 := by
    rw [hF, h1]
    show fX12_drain_b19 5000 x1 x2 S1 = _
    unfold fX12_drain_b19
    rw [M.2.2.2.1, bnd_t m_isOf]
  by_cases hn : iv (bt d x1) = x2
  · refine stp_ok (SX := SX) (SM := SM) (v := 0) 5000 5000 (hJ1.refuse (k := 1) (by decide)) rfl (Or.inl rfl) ?_ ?_ ?_
    · show fX11_drain 5000 x1 x2 SX = _
      rw [hX, if_pos hn]
      unfold fX11_drain_b20
      rw [bnd_t (show fX1_refuse 5000 20 1 SX = _ from x_refuse (k := 1) (by decide))]
    · show fX12_drain 5000 x1 x2 SM = _
      rw [hM, if_pos hn]
      rfl
    · rw [sU_n (by omega)]; exact c0
  · obtain ⟨X2, M2, k1, k2, kJ, kx, km⟩ := hJ1.keep
    obtain ⟨c1, c2, c3, c4⟩ := C.kp kx
    obtain ⟨m1, m2, m3, m4, m5⟩ := M.kp km
    obtain ⟨d', hd'⟩ : ∃ z, z = d ^^^ ((1 : Int32) <<< (x1 &&& 31)) := ⟨_, rfl⟩
    have sx : ∀ i j, ¬ (i = 21 ∧ j = 1) → sU X2 21 1 d' i j = X2 i j := fun i j hij => sU_n hij
    have sm : ∀ i j, ¬ (i = 99 ∧ j = 38) → sU M2 99 38 d' i j = M2 i j := fun i j hij => sU_n hij
    have hT : xtw (sU X2 21 1 d') = xtw X2 := by
      unfold xtw
      rw [sx 0 7 (by omega)]
    have C3 : cSit 21 Z (sU X2 21 1 d') h d' qs := by
      refine ⟨?_, by rw [sx 21 0 (by omega)]; exact c2, sU_s, fun g hg => ?_⟩
      · rw [hT]
        intro i j h1 h2
        have := xtw_cases (S := X2)
        rw [sx _ _ (by omega)]
        exact c1 i j h1 h2
      · rw [sx _ _ (by omega), sx _ _ (by omega), sx _ _ (by omega), sx _ _ (by omega)]
        exact c4 g hg
    have M4 : mSit Z (sU M2 99 38 d') h d' (Z 5) qs := ⟨m1.on (fun i j h1 h2 => sm i j (by omega)), fun g hg => by rw [sm 18 g (by omega)]; exact m2 g hg, by rw [sm 99 37 (by omega)]; exact m3, sU_s, fun g hg => by rw [sm 32 g (by omega), sm 33 g (by omega), sm 34 g (by omega), sm 35 g (by omega)]; exact m5 g hg⟩
    refine stp_ok (SX := SX) (SM := SM) (v := 1) 5000 5000 (kJ.now (SX' := sU X2 21 1 d') (SM' := sU M2 99 38 d') (xNw_of (fun i j hij => sx i j (by omega))) (mQ_of (fun i j h1 h2 => sm i j (by omega))) Zk C3 M4 K h9) rfl (Or.inl rfl) ?_ ?_ ?_
    · show fX11_drain 5000 x1 x2 SX = _
      rw [hX, if_neg hn]
      unfold fX11_drain_b31
      rw [bnd_t k1]
      show bnd (fX7_turn 5000 21 x1 X2) _ = _
      unfold fX7_turn fX7_turn_b0
      rw [c3, ← hd']
      rfl
    · show fX12_drain 5000 x1 x2 SM = _
      rw [hM, if_neg hn]
      unfold fX12_drain_b36
      rw [bnd_t k2]
      dsimp only [lt]
      rw [m4, ← hd']
    · rw [sm 99 4 (by omega), km 99 4 (by omega) (by omega)]; exact c0
