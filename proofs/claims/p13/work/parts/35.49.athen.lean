/-! guild, then, first, dismissed -/
theorem pre {SX SM : gS} (hJ : JJ SX SM) : ∃ (S1 Z : gS) (h : Nat) (qs : Nat → qT), S1 = sU SM 99 4 0 ∧ S1 99 4 = 0 ∧ JJ SX S1 ∧ tOK Z ∧ h ≤ 999 ∧ cSit 21 Z SX h (SX 21 1) qs ∧ mSit Z S1 h (SX 21 1) (Z 5) qs ∧ qsOK Z (Z 5) qs ∧ S1 99 41 = -1 ∧ SX (xtw SX) 0 = nI (tn0 Z) ∧ SX (xtw SX) 5 = nI (tn1 Z) := by
  have hJ1 := hJ.same xSame.rf (code_same SM 0)
  obtain ⟨Z, h, qs, Zk, h9, C, M, K, w41, -⟩ := hJ1.sit
  exact ⟨_, Z, h, qs, rfl, code_at SM 0, hJ1, Zk, h9, C, M, K, w41, (C.1 0 0 (by omega) (by omega)).trans Zk.1.1, (C.1 0 5 (by omega) (by omega)).trans Zk.2.1.1⟩
theorem stSr {co : Nat → Int32} {ok : Nat → Prop} {SX SM : gS} {FX : Nat → Option tR} {FM : Nat → Option (Int32 × gS)} (N M : Nat) (A : Int32 → Prop) (uA : ∀ v v', A v → A v' → v = v') (hJ : JJ SX SM) (hco : co 0 = 0) (hok : ok 0) (h1 : Gv (FX N) (fun r => r.1 = 0 ∧ A r.2.1 ∧ xSame SX r.2.2)) (h2 : Gv (FM M) (fun r => A r.1 ∧ mSame (sU SM 99 4 0) r.2 ∧ r.2 99 4 = 0)) : StpT JJ co ok FX FM := by
  obtain ⟨⟨t, w, SX'⟩, a1, a2, a3, a4⟩ := h1
  refine stSu N M w hJ hco hok ⟨_, a1, a2, rfl, a4⟩ (h2.m (fun r hr => ⟨uA _ _ hr.1 a3, hr.2⟩))
def ansF (c : Nat → Bool) (n : Nat) (v : Int32) : Prop := (∃ k, k < n ∧ c k = true ∧ (∀ i, i < k → c i = false) ∧ v = nI (k + 1)) ∨ ((∀ i, i < n → c i = false) ∧ v = -1)
theorem ansF.u {c : Nat → Bool} {n : Nat} : ∀ v v', ansF c n v → ansF c n v' → v = v' := by
  rintro v v' (⟨k, a1, a2, a3, a4⟩ | ⟨a1, a2⟩) (⟨k', b1, b2, b3, b4⟩ | ⟨b1, b2⟩)
  · have : k = k' := by
      rcases Nat.lt_trichotomy k k' with h | h | h
      · rw [b3 k h] at a2; cases a2
      · exact h
      · rw [a3 k' h] at b2; cases b2
    rw [a4, b4, this]
  · rw [b1 k a1] at a2; cases a2
  · rw [a1 k' b1] at b2; cases b2
  · rw [a2, b2]
/-- the reference packs; what follows may go on and is put back -/
theorem q_go {Z S1 : gS} {h : Nat} {d : Int32} {e : Nat → Int32} {qs : Nat → qT} (M : mSit Z S1 h d e qs) (w41 : S1 99 41 = -1) (c0 : S1 99 4 = 0) : ∃ S2, fX12_pack 5000 46 0 S1 = some (0, S2) ∧ mSit Z S2 h d e qs ∧ S2 99 41 = -1 ∧ mSame S1 S2 ∧ S2 99 4 = 0 ∧ (∀ S, (∀ j, S 46 j = S2 46 j) → oSame mQ S1 S → ∃ S4, fX12_unpack 5000 46 0 S = some (0, S4) ∧ mSame S1 S4 ∧ S4 99 4 = S 99 4 ∧ ∀ i j, S4 i j = if mPk i j = true then S1 i j else S i j) ∧ (∀ S, oSame mHo S2 S → ∃ S4, fX12_unpack 5000 46 0 S = some (0, S4) ∧ mSame S1 S4 ∧ S4 99 4 = 0) := by
  obtain ⟨S2, k1, k2, k3⟩ := q_pk (N := 5000) (S1 := S1) (nd := 46) (Or.inl rfl) (by decide)
  have s2 : mSame S1 S2 := fun i j hij => k2 i j (fun q => by rw [q] at hij; cases hij)
  have A : ∀ S, (∀ j, S 46 j = S2 46 j) → oSame mQ S1 S → ∃ S4, fX12_unpack 5000 46 0 S = some (0, S4) ∧ mSame S1 S4 ∧ S4 99 4 = S 99 4 ∧ ∀ i j, S4 i j = if mPk i j = true then S1 i j else S i j := by
    intro S h46 s
    obtain ⟨S4, u1, u2⟩ := k3 S h46
    exact ⟨S4, u1, mQ_back s u2, by rw [u2 99 4]; rfl, u2⟩
  refine ⟨S2, k1, M.on s2, by rw [k2 99 41 (by omega)]; exact w41, s2, by rw [k2 99 4 (by omega)]; exact c0, A, fun S s => ?_⟩
  obtain ⟨S4, u1, u2, u3, -⟩ := A S (fun j => s 46 j rfl) (s2.q.tr s.q)
  exact ⟨S4, u1, u2, by rw [u3, s 99 4 rfl, k2 99 4 (by omega)]; exact c0⟩
theorem st_then : Lw_then JJ := by
  intro SX SM x1 x2 x3 hJ
  obtain ⟨S1, Z, h, qs, hS1, c0, hJ1, Zk, h9, C, M, K, w41, x0, x5⟩ := pre hJ
  have z6 := Zk.2.1.2
  have hF : fX12_then 5000 x1 x2 x3 SM = if iv (inb x1 (tn1 Z)) = 0 then fX12_then_b25 5000 S1 else fX12_then_b13 5000 x1 x2 x3 S1 := by
    unfold fX12_then fX12_then_b0
    dsimp only [lt]
    rw [← hS1, bnd_t (m_isGuild M.1.2.1 (by omega))]
  have hG : fX12_then_b13 5000 x1 x2 x3 S1 = if iv (wth x3 0 3) = 0 then fX12_then_b25 5000 S1 else fX12_then_b31 5000 x1 x2 x3 S1 := by
    unfold fX12_then_b13
    rw [bnd_t in_0_3]
  have hH : fX12_then_b31 5000 x1 x2 x3 S1 = if iv (wth x2 0 60) = 0 then fX12_then_b43 5000 S1 else fX12_then_b49 5000 x1 x2 x3 S1 := by
    unfold fX12_then_b31
    rw [bnd_t in_0_60]
  cases h1 : inb x1 (tn1 Z) with
  | false =>
    refine stFl 5000 5000 1 hJ one_ne (Or.inr (Or.inl rfl)) (ngF x5 (by omega) h1) ?_
    show fX12_then 5000 x1 x2 x3 SM = _
    rw [hF, h1, ← hS1]
    rfl
  | true =>
  cases h3 : wth x3 0 3 with
  | false =>
    refine stFl 5000 5000 1 hJ one_ne (Or.inr (Or.inl rfl)) ((ngT x5 (by omega) h1).trans (nwF h3)) ?_
    show fX12_then 5000 x1 x2 x3 SM = _
    rw [hF, h1, ← hS1]
    show fX12_then_b13 5000 x1 x2 x3 S1 = _
    rw [hG, h3]
    rfl
  | true =>
  cases h2 : wth x2 0 60 with
  | false =>
    refine stFl 5000 5000 2 hJ two_ne (Or.inr (Or.inr rfl)) (((ngT x5 (by omega) h1).trans (nwT h3)).trans (niF h2)) ?_
    show fX12_then 5000 x1 x2 x3 SM = _
    rw [hF, h1, ← hS1]
    show fX12_then_b13 5000 x1 x2 x3 S1 = _
    rw [hG, h3]
    show fX12_then_b31 5000 x1 x2 x3 S1 = _
    rw [hH, h2]
    rfl
  | true =>
  obtain ⟨g, hg, rfl⟩ := inb_of h1 (by omega)
  obtain ⟨c, -, c2, rfl⟩ := wth_of (a := 0) (b := 60) (by decide) (by decide) h2
  obtain ⟨y, -, y2, rfl⟩ := wth_of (a := 0) (b := 3) (by decide) (by decide) h3
  obtain ⟨X1, b1, b2, b3⟩ := x_begin (N := 5000) (Or.inl rfl) Zk C hg (by omega)
  obtain ⟨X2, p1, p2, p3⟩ := x_passHours (N := 5000) (n := c) xtw_cases Zk (C.1.on xtw_cases b3) (K.1 g hg) (K.2.2 g hg) b2 (by omega) (by omega) (by decide)
  obtain ⟨S2, k1, k2, k3, -, -, -, k4⟩ := q_go M w41 c0
  obtain ⟨S3, r1, r2, r3⟩ := m_goOn (N := 5000) (n := c) Zk K.h (by omega) (by decide) (by omega) k2 k3
  obtain ⟨S4, u1, u2, u3⟩ := k4 S3 r3
  obtain ⟨w1, w2, w3, w4⟩ := r2.2.2.2.2 g hg
  have hgc : (nI g).toNatClampNeg = g := nI_clamp (by omega)
  have hin : inb (nI g) 6 = true := inb_t (by omega) (by decide)
  have hX : fX11_then 5000 (nI g) (nI c) (nI y) SX = if nI y = 0 then fX11_then_b76 5000 X2 else if nI y = 1 then fX11_then_b84 5000 X2 else if nI y = 2 then fX11_then_b92 5000 X2 else fX11_then_b100 5000 X2 := by
    refine ((ngT x5 (by omega) h1).trans (nwT h3)).trans ((niT h2).trans ?_)
    dsimp only [lt]
    rw [bnd_t b1]
    dsimp only
    rw [xWk.tw b3, bnd_t p1]
  have hM : fX12_then 5000 (nI g) (nI c) (nI y) SM = if nI y = 0 then fX12_then_b67 5000 (nI g) S3 else fX12_then_b76 5000 (nI g) (nI y) S3 := by
    rw [hF, h1]
    show fX12_then_b13 5000 (nI g) (nI c) (nI y) S1 = _
    rw [hG, h3]
    show fX12_then_b31 5000 (nI g) (nI c) (nI y) S1 = _
    rw [hH, h2]
    show fX12_then_b49 5000 (nI g) (nI c) (nI y) S1 = _
    unfold fX12_then_b49
    rw [bnd_t k1]
    dsimp only
    rw [bnd_t r1]
  have fin : ∀ v, fX12_then_b110 5000 v S3 = some (v, S4) := fun v => by
    unfold fX12_then_b110
    rw [bnd_t u1]
  have hx := xWk.same (b3.tr p3)
  rcases (show y = 0 ∨ y = 1 ∨ y = 2 ∨ y = 3 by omega) with rfl | rfl | rfl | rfl
  · refine stSu 5000 5000 (trj Z (Z 5 g) (SX 21 1) (wetZ Z) h (qs g) c).1 hJ rfl (Or.inl rfl) ⟨(0, X2 51 1, X2), hX, rfl, p2.2.1, hx⟩ ⟨(_, S4), hM.trans ?_, w1, by rw [← hS1]; exact u2, u3⟩
    show fX12_then_b67 5000 (nI g) S3 = _
    unfold fX12_then_b67
    rw [chk_t hin, hgc, fin]
  · refine stSu 5000 5000 (trj Z (Z 5 g) (SX 21 1) (wetZ Z) h (qs g) c).2.1 hJ rfl (Or.inl rfl) ⟨(0, X2 51 2, X2), hX, rfl, p2.2.2.1, hx⟩ ⟨(_, S4), hM.trans ?_, w2, by rw [← hS1]; exact u2, u3⟩
    show fX12_then_b81 5000 (nI g) S3 = _
    unfold fX12_then_b81
    rw [chk_t hin, hgc, fin]
  · refine stSu 5000 5000 (trj Z (Z 5 g) (SX 21 1) (wetZ Z) h (qs g) c).2.2.1 hJ rfl (Or.inl rfl) ⟨(0, X2 51 3, X2), hX, rfl, p2.2.2.2.1, hx⟩ ⟨(_, S4), hM.trans ?_, w3, by rw [← hS1]; exact u2, u3⟩
    show fX12_then_b95 5000 (nI g) S3 = _
    unfold fX12_then_b95
    rw [chk_t hin, hgc, fin]
  · refine stSu 5000 5000 (trj Z (Z 5 g) (SX 21 1) (wetZ Z) h (qs g) c).2.2.2 hJ rfl (Or.inl rfl) ⟨(0, X2 51 4, X2), hX, rfl, p2.2.2.2.2.1, hx⟩ ⟨(_, S4), hM.trans ?_, w4, by rw [← hS1]; exact u2, u3⟩
    show fX12_then_b104 5000 (nI g) S3 = _
    unfold fX12_then_b104
    rw [chk_t hin, hgc, fin]
theorem st_guild : Lw_guild JJ := by
  intro SX SM x1 x2 hJ
  obtain ⟨S1, Z, h, qs, hS1, c0, hJ1, Zk, h9, C, M, K, w41, x0, x5⟩ := pre hJ
  have z6 := Zk.2.1.2
  have hF : fX12_guild 5000 x1 x2 SM = if iv (inb x1 (tn1 Z)) = 0 then fX12_guild_b13 5000 S1 else fX12_guild_b19 5000 x1 x2 S1 := by
    unfold fX12_guild fX12_guild_b0
    dsimp only [lt]
    rw [← hS1, bnd_t (m_isGuild M.1.2.1 (by omega))]
  cases h1 : inb x1 (tn1 Z) with
  | false =>
    refine stFl 5000 5000 1 hJ one_ne (Or.inr rfl) (ngF x5 (by omega) h1) ?_
    show fX12_guild 5000 x1 x2 SM = _
    rw [hF, h1, ← hS1]
    rfl
  | true =>
  obtain ⟨g, hg, rfl⟩ := inb_of h1 (by omega)
  have hgc : (nI g).toNatClampNeg = g := nI_clamp (by omega)
  have hin : inb (nI g) 6 = true := inb_t (by omega) (by decide)
  have hX : fX11_guild 5000 (nI g) x2 SX = if x2 = 0 then fX11_guild_b52 5000 (nI g) SX else if x2 = 1 then fX11_guild_b62 5000 (nI g) SX else if x2 = 2 then fX11_guild_b69 5000 (nI g) SX else if x2 = 3 then fX11_guild_b76 5000 (nI g) SX else if x2 = 4 then fX11_guild_b83 5000 (nI g) SX else if x2 = 5 then fX11_guild_b90 5000 (nI g) SX else fX11_guild_b96 5000 SX := ngT x5 (by omega) h1
  have hM : fX12_guild 5000 (nI g) x2 SM = fX12_guild_b19 5000 (nI g) x2 S1 := by
    rw [hF, h1]
    rfl
  obtain ⟨c1, c2, c3, c4⟩ := C.2.2.2 g hg
  obtain ⟨m1, m2, m3, m4⟩ := M.2.2.2.2 g hg
  have m18 := M.2.1 g hg
  have key : ∀ v, fX11_guild 5000 (nI g) x2 SX = some (0, v, SX) → fX12_guild_b19 5000 (nI g) x2 S1 = some (v, S1) → StpT JJ lcA okA (fun N => fX11_guild N (nI g) x2 SX) (fun M => fX12_guild M (nI g) x2 SM) := fun v a b => stSu 5000 5000 v hJ rfl (Or.inl rfl) ⟨_, a, rfl, rfl, xSame.rf⟩ ⟨_, hM.trans b, rfl, by rw [← hS1]; exact mSame.rf, c0⟩
  by_cases h0 : x2 = 0
  · subst h0
    refine key (Z 5 g) ?_ ?_
    · rw [hX]
      show fX11_guild_b52 5000 (nI g) SX = _
      unfold fX11_guild_b52
      dsimp only [lt]
      rw [chk_t hin, hgc, C.1 5 g (by omega) (by omega)]
    · show fX12_guild_b60 5000 (nI g) S1 = _
      unfold fX12_guild_b60
      rw [chk_t hin, hgc, m18]
  by_cases h01 : x2 = 1
  · subst h01
    refine key (qs g).1 ?_ ?_
    · rw [hX]
      show fX11_guild_b62 5000 (nI g) SX = _
      unfold fX11_guild_b62
      rw [chk_t hin, hgc, show SX 22 g = _ from c1]
    · show fX12_guild_b67 5000 (nI g) S1 = _
      unfold fX12_guild_b67
      rw [chk_t hin, hgc, m1]
  by_cases h02 : x2 = 2
  · subst h02
    refine key (qs g).2.1 ?_ ?_
    · rw [hX]
      show fX11_guild_b69 5000 (nI g) SX = _
      unfold fX11_guild_b69
      rw [chk_t hin, hgc, show SX 23 g = _ from c2]
    · show fX12_guild_b74 5000 (nI g) S1 = _
      unfold fX12_guild_b74
      rw [chk_t hin, hgc, m2]
  by_cases h03 : x2 = 3
  · subst h03
    refine key (qs g).2.2.1 ?_ ?_
    · rw [hX]
      show fX11_guild_b76 5000 (nI g) SX = _
      unfold fX11_guild_b76
      rw [chk_t hin, hgc, show SX 24 g = _ from c3]
    · show fX12_guild_b81 5000 (nI g) S1 = _
      unfold fX12_guild_b81
      rw [chk_t hin, hgc, m3]
  by_cases h04 : x2 = 4
  · subst h04
    refine key (qs g).2.2.2 ?_ ?_
    · rw [hX]
      show fX11_guild_b83 5000 (nI g) SX = _
      unfold fX11_guild_b83
      rw [chk_t hin, hgc, show SX 25 g = _ from c4]
    · show fX12_guild_b88 5000 (nI g) S1 = _
      unfold fX12_guild_b88
      rw [chk_t hin, hgc, m4]
  by_cases h05 : x2 = 5
  · subst h05
    obtain ⟨X1, b1, b2, b3, b6⟩ := x_begin6 (N := 5000) (Or.inl rfl) Zk C hg (by omega)
    have hX5 : fX11_guild 5000 (nI g) 5 SX = bnd (fX10_cost 5000 (xtw SX) X1) (fun q2 => some (0, q2.1, q2.2)) := by
      rw [hX]
      show fX11_guild_b90 5000 (nI g) SX = _
      unfold fX11_guild_b90 fX11_costNow fX11_costNow_b0
      dsimp only [lt]
      rw [bnd_t b1]
      dsimp only
      rw [xWk.tw b3]
      cases fX10_cost 5000 (xtw SX) X1 <;> rfl
    have hM5 : fX12_guild 5000 (nI g) 5 SM = if (qs g).2.2.2 = -1 then fX12_guild_b105 5000 S1 else fX12_guild_b109 5000 (nI g) S1 := by
      rw [hM]
      show fX12_guild_b95 5000 (nI g) S1 = _
      unfold fX12_guild_b95
      rw [chk_t hin, hgc, m4]
    rcases (K.1 g hg).2.2.2 with hh | ⟨k, hk, hh⟩
    · refine stSu 5000 5000 0 hJ rfl (Or.inl rfl) ⟨(0, 0, X1), ?_, rfl, rfl, xWk.same b3⟩ ⟨(0, S1), ?_, rfl, by rw [← hS1]; exact mSame.rf, c0⟩
      · show fX11_guild 5000 (nI g) 5 SX = _
        rw [hX5, bnd_t (x_cost0 Zk (C.1.on xtw_cases b3) (by rw [b2.2.2.2.2.1]; exact hh))]
      · show fX12_guild 5000 (nI g) 5 SM = _
        rw [hM5, if_pos hh]
        rfl
    · have z8 := Zk.1.2
      obtain ⟨r, hr⟩ := x_cost (N := 5000) xtw_cases Zk (C.1.on xtw_cases b3) hk (by rw [b2.2.2.2.2.1]; exact hh) (by decide)
      obtain ⟨S2, r1, r2⟩ := m_costsOf (N := 5000) (g := g) Zk M.1 (by omega) hk (by rw [m4]; exact hh) M.2.2.1 (by omega) (Or.inr ⟨w41, rfl⟩) (by decide)
      obtain ⟨v0, v1, v2, v3, v4, v5, v7⟩ := b2
      rw [v0, v1, v2, v5, b6] at hr
      rw [m1, m2, M.2.2.1, m18] at r1
      have s15 : oSame xWk SX (sN X1 (xtw SX + 15) r) := b3.upN (fun j => by rcases xtw_cases (S := SX) with q | q <;> rw [q] <;> rfl)
      refine stSu 5000 5000 (coZ Z k (qs g).1 (qs g).2.1 (wetZ Z h) (nI h) (Z 5 g)) hJ rfl (Or.inl rfl) ⟨(0, coZ Z k (qs g).1 (qs g).2.1 (wetZ Z h) (nI h) (Z 5 g), sN X1 (xtw SX + 15) r), ?_, rfl, rfl, xWk.same s15⟩ ⟨(coZ Z k (qs g).1 (qs g).2.1 (wetZ Z h) (nI h) (Z 5 g), S2), ?_, rfl, ?_, ?_⟩
      · show fX11_guild 5000 (nI g) 5 SX = _
        rw [hX5, bnd_t hr]
      · show fX12_guild 5000 (nI g) 5 SM = _
        rw [hM5, if_neg (by rw [hh]; exact nI_nem (by omega))]
        unfold fX12_guild_b109
        rw [bnd_t r1]
        rfl
      · rw [← hS1]
        intro i j hij
        exact r2 i j (mRu_f (fun q => by rw [q] at hij; cases hij) (fun q => by rw [q] at hij; cases hij))
      · dsimp only
        rw [r2 99 4 rfl]
        exact c0
  refine stFl 5000 5000 1 hJ one_ne (Or.inr rfl) ?_ ?_
  · show fX11_guild 5000 (nI g) x2 SX = _
    rw [hX, if_neg h0, if_neg h01, if_neg h02, if_neg h03, if_neg h04, if_neg h05]
    rfl
  · show fX12_guild 5000 (nI g) x2 SM = _
    rw [hM]
    unfold fX12_guild_b19
    rw [if_neg h0, if_neg h01, if_neg h02, if_neg h03, if_neg h04, if_neg h05, ← hS1]
    rfl
