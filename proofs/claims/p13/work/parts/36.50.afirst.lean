/-! first, dismissed -/
theorem silent_bt {c : Nat → Bool} {n g : Nat} (hn : n ≤ 6) (hg : g < n) : bt (drB c n 0 0) (nI g) = c g := by
  rw [bt_bb (by omega), bb_drB (by omega) n 0 0 (by omega), bb_0, decide_eq_true (p := 0 ≤ g) (by omega), decide_eq_true (p := g < 0 + n) (by omega)]
  simp
theorem x_first_h {Z SX S : gS} {h g : Nat} {d : Int32} {q : qT} (Zk : tOK Z) (hx : tXz (xtw SX) Z SX) (h9 : h ≤ 999) (hq : qOK (tn0 Z) q) (he : eOK (Z 5 g)) (W : wkA S (Z 5 g) d (nI h) q) (s : oSame xWk SX S) : Gv (fX11_first_h26 5000 5000 1 S) (fun r => r.1 = 0 ∧ ansF (trB Z (Z 5 g) d (wetZ Z) h q) 60 r.2.1 ∧ xSame SX r.2.2) := by
  refine loopG (fun f k S => fX11_first_h26 5000 f (nI (k + 1)) S) (fun k S' => wkA S' (Z 5 g) d (nI (h + k)) (trj Z (Z 5 g) d (wetZ Z) h q k) ∧ oSame xWk SX S' ∧ ∀ i, i < k → trB Z (Z 5 g) d (wetZ Z) h q i = false) _ 60 ?_ ?_ 60 0 S 5000 (by omega) ⟨W, s, fun i hi => by omega⟩ (by omega)
  · rintro f S1 ⟨i1, i2, i3⟩
    exact ⟨(0, -1, S1), rfl, rfl, Or.inr ⟨i3, rfl⟩, xWk.same i2⟩
  · rintro f k S1 hk ⟨i1, i2, i3⟩
    have hT : tXz (xtw SX) Z S1 := hx.on xtw_cases i2
    obtain ⟨S2, r1, r2, r3⟩ := x_passHour (N := 5000) (we := wetZ Z (h + k)) xtw_cases Zk hT (trj_ok hq he k) he i1 (by decide)
    have hF : fX11_first_h26 5000 (f + 1) (nI (k + 1)) S1 = if iv (trB Z (Z 5 g) d (wetZ Z) h q k) = 0 then fX11_first_b62 5000 (fX11_first_h26 5000 f) (nI (k + 1)) S2 else fX11_first_b60 5000 (nI (k + 1)) S2 := by
      show fX11_first_b26 5000 (fX11_first_h26 5000 f) (nI (k + 1)) S1 = _
      unfold fX11_first_b26
      rw [if_neg (show ¬ (60 : Int32) < nI (k + 1) from nI_nlt (a := 60) (by omega) (by decide))]
      unfold fX11_first_b32
      dsimp only [lt]
      rw [xWk.tw i2, i1.2.2.2.2.2.1, bnd_t (x_wetZ Zk hT (by omega))]
      dsimp only
      rw [bnd_t r1]
      rfl
    cases hb : trB Z (Z 5 g) d (wetZ Z) h q k with
    | false =>
      refine Or.inr ⟨S2, ⟨?_, i2.tr r3, fun i hi => ?_⟩, ?_⟩
      · rw [nI_1] at r2
        exact r2
      · by_cases hik : i = k
        · rw [hik]; exact hb
        · exact i3 i (by omega)
      · show fX11_first_h26 5000 (f + 1) (nI (k + 1)) S1 = _
        rw [hF, hb]
        show fX11_first_b62 5000 (fX11_first_h26 5000 f) (nI (k + 1)) S2 = _
        unfold fX11_first_b62
        rw [nI_1]
    | true =>
      refine Or.inl ⟨(0, nI (k + 1), S2), ?_, rfl, Or.inl ⟨k, hk, hb, i3, rfl⟩, xWk.same (i2.tr r3)⟩
      show fX11_first_h26 5000 (f + 1) (nI (k + 1)) S1 = _
      rw [hF, hb]
      rfl
theorem m_first_h {Z S1 S2 : gS} {h g : Nat} {d : Int32} {e : Nat → Int32} {qs : Nat → qT} (Zk : tOK Z) (K : qsOK Z e qs) (hg : g < tn1 Z) (h9 : h ≤ 999) (M : mSit Z S2 h d e qs) (w41 : S2 99 41 = -1) (E : ∀ S, oSame mHo S2 S → ∃ S4, fX12_unpack 5000 46 0 S = some (0, S4) ∧ mSame S1 S4 ∧ S4 99 4 = 0) : Gv (fX12_first_h32 5000 5000 (nI g) (-1) 1 S2) (fun r => ansF (trB Z (e g) d (wetZ Z) h (qs g)) 60 r.1 ∧ mSame S1 r.2 ∧ r.2 99 4 = 0) := by
  have z6 := Zk.2.1.2
  have out : ∀ S v, oSame mHo S2 S → ansF (trB Z (e g) d (wetZ Z) h (qs g)) 60 v → Gv (fX12_first_b66 5000 v S) (fun r => ansF (trB Z (e g) d (wetZ Z) h (qs g)) 60 r.1 ∧ mSame S1 r.2 ∧ r.2 99 4 = 0) := by
    intro S v s hv
    obtain ⟨S4, u1, u2, u3⟩ := E S s
    refine ⟨(v, S4), ?_, hv, u2, u3⟩
    unfold fX12_first_b66
    rw [bnd_t u1]
  refine loopG (A := Int32 × gS) (fun f k a => fX12_first_h32 5000 f (nI g) a.1 (nI (k + 1)) a.2) (fun k a => oSame mHo S2 a.2 ∧ ((a.1 = -1 ∧ mSit Z a.2 (h + k) d e (fun g => trj Z (e g) d (wetZ Z) h (qs g) k) ∧ ∀ i, i < k → trB Z (e g) d (wetZ Z) h (qs g) i = false) ∨ (¬ a.1 = -1 ∧ ansF (trB Z (e g) d (wetZ Z) h (qs g)) 60 a.1))) _ 60 ?_ ?_ 60 0 (-1, S2) 5000 (by omega) ⟨oSame.rf, Or.inl ⟨rfl, M, fun i hi => by omega⟩⟩ (by omega)
  · rintro f ⟨v, S⟩ ⟨i1, i2⟩
    show Gv (fX12_first_b32 5000 _ (nI g) v (nI 61) S) _
    unfold fX12_first_b32
    rw [if_pos (show (60 : Int32) < nI 61 by decide)]
    refine out S v i1 ?_
    rcases i2 with ⟨h1, h2, h3⟩ | ⟨h1, h2⟩
    · exact Or.inr ⟨h3, h1⟩
    · exact h2
  · rintro f k ⟨v, S⟩ hk ⟨i0, i2⟩
    have i1 : oSame mHo S2 S := i0
    have h60 : ¬ (60 : Int32) < nI (k + 1) := nI_nlt (a := 60) (by omega) (by decide)
    rcases i2 with ⟨h1, h2, h3⟩ | ⟨h1, h2⟩
    · dsimp only at h1 h2
      subst h1
      obtain ⟨S3, r1, r2, r3, r4⟩ := m_step1 (N := 5000) Zk (K.h.tr (wf := wetZ Z) (h := h) (d := d) (e := e) k) (by omega) (by decide) h2 (by rw [i1 99 41 rfl]; exact w41)
      have hF : fX12_first_h32 5000 (f + 1) (nI g) (-1) (nI (k + 1)) S = if iv (trB Z (e g) d (wetZ Z) h (qs g) k) = 0 then fX12_first_b60 5000 (fX12_first_h32 5000 f) (nI g) (-1) (nI (k + 1)) S3 else fX12_first_b58 5000 (fX12_first_h32 5000 f) (nI g) (nI (k + 1)) S3 := by
        show fX12_first_b32 5000 (fX12_first_h32 5000 f) (nI g) (-1) (nI (k + 1)) S = _
        unfold fX12_first_b32
        rw [if_neg h60]
        unfold fX12_first_b38
        rw [if_pos rfl]
        unfold fX12_first_b43
        rw [bnd_t r1]
        dsimp only
        rw [bnd_t m_isOf, r3, silent_bt z6 hg]
        rfl
      cases hb : trB Z (e g) d (wetZ Z) h (qs g) k with
      | false =>
        refine Or.inr ⟨(-1, S3), ⟨i1.tr r4, Or.inl ⟨rfl, r2, fun i hi => ?_⟩⟩, ?_⟩
        · by_cases hik : i = k
          · rw [hik]; exact hb
          · exact h3 i (by omega)
        · show fX12_first_h32 5000 (f + 1) (nI g) (-1) (nI (k + 1)) S = _
          rw [hF, hb]
          show fX12_first_b60 5000 (fX12_first_h32 5000 f) (nI g) (-1) (nI (k + 1)) S3 = _
          unfold fX12_first_b60
          rw [nI_1]
      | true =>
        refine Or.inr ⟨(nI (k + 1), S3), ⟨i1.tr r4, Or.inr ⟨nI_nem (by omega), Or.inl ⟨k, hk, hb, h3, rfl⟩⟩⟩, ?_⟩
        show fX12_first_h32 5000 (f + 1) (nI g) (-1) (nI (k + 1)) S = _
        rw [hF, hb]
        show fX12_first_b58 5000 (fX12_first_h32 5000 f) (nI g) (nI (k + 1)) S3 = _
        unfold fX12_first_b58 fX12_first_b60
        rw [nI_1]
    · refine Or.inl ?_
      show Gv (fX12_first_b32 5000 _ (nI g) v (nI (k + 1)) S) _
      unfold fX12_first_b32
      rw [if_neg h60]
      unfold fX12_first_b38
      rw [if_neg h1]
      exact out S v i1 h2
theorem st_first : Lw_first JJ := by
  intro SX SM x1 hJ
  obtain ⟨S1, Z, h, qs, hS1, c0, hJ1, Zk, h9, C, M, K, w41, x0, x5⟩ := pre hJ
  have z6 := Zk.2.1.2
  have hF : fX12_first 5000 x1 SM = if iv (inb x1 (tn1 Z)) = 0 then fX12_first_b13 5000 S1 else fX12_first_b19 5000 x1 S1 := by
    unfold fX12_first fX12_first_b0
    dsimp only [lt]
    rw [← hS1, bnd_t (m_isGuild M.1.2.1 (by omega))]
  cases h1 : inb x1 (tn1 Z) with
  | false =>
    refine stFl 5000 5000 1 hJ one_ne (Or.inr rfl) (ngF x5 (by omega) h1) ?_
    show fX12_first 5000 x1 SM = _
    rw [hF, h1, ← hS1]
    rfl
  | true =>
  obtain ⟨g, hg, rfl⟩ := inb_of h1 (by omega)
  obtain ⟨X1, b1, b2, b3⟩ := x_begin (N := 5000) (Or.inl rfl) Zk C hg (by omega)
  obtain ⟨S2, k1, k2, k3, -, -, -, k4⟩ := q_go M w41 c0
  refine stSr 5000 5000 (ansF (trB Z (Z 5 g) (SX 21 1) (wetZ Z) h (qs g)) 60) ansF.u hJ rfl (Or.inl rfl) ?_ ?_
  · have e : fX11_first 5000 (nI g) SX = fX11_first_h26 5000 5000 1 X1 := by
      refine (ngT x5 (by omega) h1).trans ?_
      dsimp only [lt]
      rw [bnd_t b1]
    show Gv (fX11_first 5000 (nI g) SX) _
    rw [e]
    exact x_first_h Zk C.1 h9 (K.1 g hg) (K.2.2 g hg) b2 b3
  · have e : fX12_first 5000 (nI g) SM = fX12_first_h32 5000 5000 (nI g) (-1) 1 S2 := by
      rw [hF, h1]
      show fX12_first_b19 5000 (nI g) S1 = _
      unfold fX12_first_b19
      rw [bnd_t k1]
    show Gv (fX12_first 5000 (nI g) SM) _
    rw [e, ← hS1]
    exact m_first_h Zk K hg h9 k2 k3 k4
/-! dismissed -/
noncomputable def gone (Z : gS) (e d : Int32) (h : Nat) (q : qT) (i : Nat) : Bool := decide ((trj Z e d (wetZ Z) h q (i + 1)).2.2.2 = -1)
theorem x_dismissed_h {Z SX S : gS} {h g : Nat} {d : Int32} {q : qT} (Zk : tOK Z) (hx : tXz (xtw SX) Z SX) (h9 : h ≤ 999) (hq : qOK (tn0 Z) q) (he : eOK (Z 5 g)) (W : wkA S (Z 5 g) d (nI h) q) (s : oSame xWk SX S) : Gv (fX11_dismissed_h44 5000 5000 1 S) (fun r => r.1 = 0 ∧ ansF (gone Z (Z 5 g) d h q) 60 r.2.1 ∧ xSame SX r.2.2) := by
  refine loopG (fun f k S => fX11_dismissed_h44 5000 f (nI (k + 1)) S) (fun k S' => wkA S' (Z 5 g) d (nI (h + k)) (trj Z (Z 5 g) d (wetZ Z) h q k) ∧ oSame xWk SX S' ∧ ∀ i, i < k → gone Z (Z 5 g) d h q i = false) _ 60 ?_ ?_ 60 0 S 5000 (by omega) ⟨W, s, fun i hi => by omega⟩ (by omega)
  · rintro f S1 ⟨i1, i2, i3⟩
    exact ⟨(0, -1, S1), rfl, rfl, Or.inr ⟨i3, rfl⟩, xWk.same i2⟩
  · rintro f k S1 hk ⟨i1, i2, i3⟩
    have hT : tXz (xtw SX) Z S1 := hx.on xtw_cases i2
    obtain ⟨S2, r1, r2, r3⟩ := x_passHours (N := 5000) (n := 1) xtw_cases Zk hT (trj_ok hq he k) he i1 (by omega) (by omega) (by decide)
    have r1 : fX10_passHours 5000 (xtw SX) 1 S1 = some (0, S2) := r1
    have r2 : wkA S2 (Z 5 g) d (nI (h + (k + 1))) (trj Z (Z 5 g) d (wetZ Z) h q (k + 1)) := r2
    have hF : fX11_dismissed_h44 5000 (f + 1) (nI (k + 1)) S1 = if (trj Z (Z 5 g) d (wetZ Z) h q (k + 1)).2.2.2 = -1 then fX11_dismissed_b73 5000 (nI (k + 1)) S2 else fX11_dismissed_b75 5000 (fX11_dismissed_h44 5000 f) (nI (k + 1)) S2 := by
      show fX11_dismissed_b44 5000 (fX11_dismissed_h44 5000 f) (nI (k + 1)) S1 = _
      unfold fX11_dismissed_b44
      rw [if_neg (show ¬ (60 : Int32) < nI (k + 1) from nI_nlt (a := 60) (by omega) (by decide))]
      unfold fX11_dismissed_b50
      dsimp only [lt]
      rw [xWk.tw i2, bnd_t r1]
      simp only [r2.2.2.2.2.1]
    by_cases hb : (trj Z (Z 5 g) d (wetZ Z) h q (k + 1)).2.2.2 = -1
    · refine Or.inl ⟨(0, nI (k + 1), S2), ?_, rfl, Or.inl ⟨k, hk, decide_eq_true hb, i3, rfl⟩, xWk.same (i2.tr r3)⟩
      show fX11_dismissed_h44 5000 (f + 1) (nI (k + 1)) S1 = _
      rw [hF, if_pos hb]
      rfl
    · refine Or.inr ⟨S2, ⟨r2, i2.tr r3, fun i hi => ?_⟩, ?_⟩
      · by_cases hik : i = k
        · rw [hik]; exact decide_eq_false hb
        · exact i3 i (by omega)
      · show fX11_dismissed_h44 5000 (f + 1) (nI (k + 1)) S1 = _
        rw [hF, if_neg hb]
        unfold fX11_dismissed_b75
        rw [nI_1]
theorem m_dismissed_h {Z S1 S2 : gS} {h g : Nat} {d : Int32} {e : Nat → Int32} {qs : Nat → qT} (Zk : tOK Z) (K : qsOK Z e qs) (hg : g < tn1 Z) (h9 : h ≤ 999) (hne : ¬ (qs g).2.2.2 = -1) (M : mSit Z S2 h d e qs) (w41 : S2 99 41 = -1) (E : ∀ S, oSame mHo S2 S → ∃ S4, fX12_unpack 5000 46 0 S = some (0, S4) ∧ mSame S1 S4 ∧ S4 99 4 = 0) : Gv (fX12_dismissed_h32 5000 5000 (nI g) (-1) 1 S2) (fun r => ansF (gone Z (e g) d h (qs g)) 60 r.1 ∧ mSame S1 r.2 ∧ r.2 99 4 = 0) := by
  have z6 := Zk.2.1.2
  have hgc : (nI g).toNatClampNeg = g := nI_clamp (by omega)
  have hin : inb (nI g) 6 = true := inb_t (by omega) (by decide)
  have out : ∀ S v, oSame mHo S2 S → ansF (gone Z (e g) d h (qs g)) 60 v → Gv (fX12_dismissed_b75 5000 v S) (fun r => ansF (gone Z (e g) d h (qs g)) 60 r.1 ∧ mSame S1 r.2 ∧ r.2 99 4 = 0) := by
    intro S v s hv
    obtain ⟨S4, u1, u2, u3⟩ := E S s
    refine ⟨(v, S4), ?_, hv, u2, u3⟩
    unfold fX12_dismissed_b75
    rw [bnd_t u1]
  refine loopG (A := Int32 × gS) (fun f k a => fX12_dismissed_h32 5000 f (nI g) a.1 (nI (k + 1)) a.2) (fun k a => oSame mHo S2 a.2 ∧ ((a.1 = -1 ∧ mSit Z a.2 (h + k) d e (fun g => trj Z (e g) d (wetZ Z) h (qs g) k) ∧ (¬ (trj Z (e g) d (wetZ Z) h (qs g) k).2.2.2 = -1) ∧ ∀ i, i < k → gone Z (e g) d h (qs g) i = false) ∨ (¬ a.1 = -1 ∧ ansF (gone Z (e g) d h (qs g)) 60 a.1))) _ 60 ?_ ?_ 60 0 (-1, S2) 5000 (by omega) ⟨oSame.rf, Or.inl ⟨rfl, M, hne, fun i hi => by omega⟩⟩ (by omega)
  · rintro f ⟨v, S⟩ ⟨i1, i2⟩
    show Gv (fX12_dismissed_b32 5000 _ (nI g) v (nI 61) S) _
    unfold fX12_dismissed_b32
    rw [if_pos (show (60 : Int32) < nI 61 by decide)]
    refine out S v i1 ?_
    rcases i2 with ⟨h1, h2, h4, h3⟩ | ⟨h1, h2⟩
    · exact Or.inr ⟨h3, h1⟩
    · exact h2
  · rintro f k ⟨v, S⟩ hk ⟨i0, i2⟩
    have i1 : oSame mHo S2 S := i0
    have h60 : ¬ (60 : Int32) < nI (k + 1) := nI_nlt (a := 60) (by omega) (by decide)
    rcases i2 with ⟨h1, h2, h4, h3⟩ | ⟨h1, h2⟩
    · dsimp only at h1 h2
      subst h1
      obtain ⟨S3, r1, r2, r3, r4⟩ := m_step1 (N := 5000) Zk (K.h.tr (wf := wetZ Z) (h := h) (d := d) (e := e) k) (by omega) (by decide) h2 (by rw [i1 99 41 rfl]; exact w41)
      have e35 : S3 35 g = (trj Z (e g) d (wetZ Z) h (qs g) (k + 1)).2.2.2 := (r2.2.2.2.2 g hg).2.2.2
      have hF : fX12_dismissed_h32 5000 (f + 1) (nI g) (-1) (nI (k + 1)) S = if (trj Z (e g) d (wetZ Z) h (qs g) (k + 1)).2.2.2 = -1 then fX12_dismissed_b67 5000 (fX12_dismissed_h32 5000 f) (nI g) (nI (k + 1)) S3 else fX12_dismissed_b69 5000 (fX12_dismissed_h32 5000 f) (nI g) (-1) (nI (k + 1)) S3 := by
        show fX12_dismissed_b32 5000 (fX12_dismissed_h32 5000 f) (nI g) (-1) (nI (k + 1)) S = _
        unfold fX12_dismissed_b32
        rw [if_neg h60]
        unfold fX12_dismissed_b38
        rw [if_pos rfl]
        unfold fX12_dismissed_b43
        rw [chk_t hin, hgc, (h2.2.2.2.2 g hg).2.2.2, if_neg h4]
        unfold fX12_dismissed_b53
        rw [bnd_t r1]
        dsimp only
        rw [chk_t hin, hgc]
        simp only [e35]
      by_cases hb : (trj Z (e g) d (wetZ Z) h (qs g) (k + 1)).2.2.2 = -1
      · refine Or.inr ⟨(nI (k + 1), S3), ⟨i1.tr r4, Or.inr ⟨nI_nem (by omega), Or.inl ⟨k, hk, decide_eq_true hb, h3, rfl⟩⟩⟩, ?_⟩
        show fX12_dismissed_h32 5000 (f + 1) (nI g) (-1) (nI (k + 1)) S = _
        rw [hF, if_pos hb]
        unfold fX12_dismissed_b67 fX12_dismissed_b69
        rw [nI_1]
      · refine Or.inr ⟨(-1, S3), ⟨i1.tr r4, Or.inl ⟨rfl, r2, hb, fun i hi => ?_⟩⟩, ?_⟩
        · by_cases hik : i = k
          · rw [hik]; exact decide_eq_false hb
          · exact h3 i (by omega)
        · show fX12_dismissed_h32 5000 (f + 1) (nI g) (-1) (nI (k + 1)) S = _
          rw [hF, if_neg hb]
          unfold fX12_dismissed_b69
          rw [nI_1]
    · refine Or.inl ?_
      show Gv (fX12_dismissed_b32 5000 _ (nI g) v (nI (k + 1)) S) _
      unfold fX12_dismissed_b32
      rw [if_neg h60]
      unfold fX12_dismissed_b38
      rw [if_neg h1]
      exact out S v i1 h2
theorem st_dismissed : Lw_dismissed JJ := by
  intro SX SM x1 hJ
  obtain ⟨S1, Z, h, qs, hS1, c0, hJ1, Zk, h9, C, M, K, w41, x0, x5⟩ := pre hJ
  have z6 := Zk.2.1.2
  have hF : fX12_dismissed 5000 x1 SM = if iv (inb x1 (tn1 Z)) = 0 then fX12_dismissed_b13 5000 S1 else fX12_dismissed_b19 5000 x1 S1 := by
    unfold fX12_dismissed fX12_dismissed_b0
    dsimp only [lt]
    rw [← hS1, bnd_t (m_isGuild M.1.2.1 (by omega))]
  cases h1 : inb x1 (tn1 Z) with
  | false =>
    refine stFl 5000 5000 1 hJ one_ne (Or.inr rfl) (ngF x5 (by omega) h1) ?_
    show fX12_dismissed 5000 x1 SM = _
    rw [hF, h1, ← hS1]
    rfl
  | true =>
  obtain ⟨g, hg, rfl⟩ := inb_of h1 (by omega)
  have hgc : (nI g).toNatClampNeg = g := nI_clamp (by omega)
  have hin : inb (nI g) 6 = true := inb_t (by omega) (by decide)
  obtain ⟨X1, b1, b2, b3⟩ := x_begin (N := 5000) (Or.inl rfl) Zk C hg (by omega)
  obtain ⟨S2, k1, k2, k3, -, -, -, k4⟩ := q_go M w41 c0
  have c4 : SX 25 g = (qs g).2.2.2 := (C.2.2.2 g hg).2.2.2
  have hX : fX11_dismissed 5000 (nI g) SX = if (qs g).2.2.2 = -1 then fX11_dismissed_b21 5000 SX else fX11_dismissed_b23 5000 (nI g) SX := by
    refine (ngT x5 (by omega) h1).trans ?_
    dsimp only
    rw [chk_t hin, hgc]
    simp only [c4]
  have hM : fX12_dismissed 5000 (nI g) SM = fX12_dismissed_h32 5000 5000 (nI g) (-1) 1 S2 := by
    rw [hF, h1]
    show fX12_dismissed_b19 5000 (nI g) S1 = _
    unfold fX12_dismissed_b19
    rw [bnd_t k1]
  by_cases hn : (qs g).2.2.2 = -1
  · obtain ⟨S4, u1, u2, u3⟩ := k4 S2 oSame.rf
    refine stSu 5000 5000 (-1) hJ rfl (Or.inl rfl) ⟨(0, -1, SX), ?_, rfl, rfl, xSame.rf⟩ ⟨(-1, S4), ?_, rfl, by rw [← hS1]; exact u2, u3⟩
    · show fX11_dismissed 5000 (nI g) SX = _
      rw [hX, if_pos hn]
      rfl
    · show fX12_dismissed 5000 (nI g) SM = _
      rw [hM]
      show fX12_dismissed_b32 5000 (fX12_dismissed_h32 5000 4999) (nI g) (-1) 1 S2 = _
      unfold fX12_dismissed_b32
      rw [if_neg (by decide)]
      unfold fX12_dismissed_b38
      rw [if_pos rfl]
      unfold fX12_dismissed_b43
      rw [chk_t hin, hgc, (k2.2.2.2.2 g hg).2.2.2, if_pos hn]
      unfold fX12_dismissed_b75
      rw [bnd_t u1]
  · refine stSr 5000 5000 (ansF (gone Z (Z 5 g) (SX 21 1) h (qs g)) 60) ansF.u hJ rfl (Or.inl rfl) ?_ ?_
    · have e : fX11_dismissed 5000 (nI g) SX = fX11_dismissed_h44 5000 5000 1 X1 := by
        rw [hX, if_neg hn]
        unfold fX11_dismissed_b23
        dsimp only [lt]
        rw [bnd_t b1]
      show Gv (fX11_dismissed 5000 (nI g) SX) _
      rw [e]
      exact x_dismissed_h Zk C.1 h9 (K.1 g hg) (K.2.2 g hg) b2 b3
    · show Gv (fX12_dismissed 5000 (nI g) SM) _
      rw [hM, ← hS1]
      exact m_dismissed_h Zk K hg h9 hn k2 k3 k4
