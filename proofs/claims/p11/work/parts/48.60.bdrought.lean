/-! drought where its answers are left out: both sides go through, and J holds again -/
theorem x_drought_h {Z SX S : gS} {h n g : Nat} {d st tn lk : Int32} {q : qT} {r : Int32 → Int32 → Int32 → Int32 → Int32 → gS → Option tR} (Zk : tOK Z) (hx : tXz (xtw SX) Z SX) (h9 : h ≤ 999) (hn : n ≤ 5) (hg : g < 6) (hq : qOK (tn0 Z) q) (he : eOK (Z 5 g)) (W : wkA S (Z 5 g) d (nI h) q) (s : oSame xWk SX S) : ∃ (lk' : Int32) (S' : gS), fX11_drought_h60 5000 r 5000 (nI g) (nI n) tn lk st 1 0 0 S = r (nI g) (nI n) tn lk' (st + 1) S' ∧ oSame xWk SX S' := by
  suffices L : ∀ (m k fuel : Nat) (S : gS) (w sl : Int32), k + m = n → m < fuel → wkA S (Z 5 g) d (nI (h + k)) (trj Z (Z 5 g) d (dwf st h) h q k) → oSame xWk SX S → ∃ (lk' : Int32) (S' : gS), fX11_drought_h60 5000 r fuel (nI g) (nI n) tn lk st w sl (nI k) S = r (nI g) (nI n) tn lk' (st + 1) S' ∧ oSame xWk SX S' from L n 0 5000 S 1 0 (by omega) (by omega) W s
  intro m
  induction m with
  | zero =>
    intro k fuel S w sl h1 h2 W s
    obtain ⟨f, rfl⟩ : ∃ f, fuel = f + 1 := ⟨fuel - 1, by omega⟩
    have : k = n := by omega
    subst this
    by_cases hs : sl = 0
    · refine ⟨lk, S, ?_, s⟩
      show fX11_drought_b60 5000 r _ (nI g) (nI k) tn lk st w sl (nI k) S = _
      unfold fX11_drought_b60
      rw [if_pos (nI_le (Nat.le_refl _) (by omega))]
      unfold fX11_drought_b127
      rw [if_pos hs]
      rfl
    · refine ⟨lk + w, S, ?_, s⟩
      show fX11_drought_b60 5000 r _ (nI g) (nI k) tn lk st w sl (nI k) S = _
      unfold fX11_drought_b60
      rw [if_pos (nI_le (Nat.le_refl _) (by omega))]
      unfold fX11_drought_b127
      rw [if_neg hs]
      rfl
  | succ m ih =>
    intro k fuel S w sl h1 h2 W s
    obtain ⟨f, rfl⟩ : ∃ f, fuel = f + 1 := ⟨fuel - 1, by omega⟩
    have hT : tXz (xtw SX) Z S := hx.on xtw_cases s
    obtain ⟨S2, r1, r2, r3⟩ := x_passHour (N := 5000) (we := dwf st h (h + k)) xtw_cases Zk hT (trj_ok hq he k) he W (by decide)
    rw [nI_1] at r2
    have ed : dwf st h (h + k) = if bt st (nI k) = true then 0 else 9 := by
      unfold dwf
      rw [show h + k - h = k by omega]
    rw [ed] at r1
    obtain ⟨B, r1⟩ : ∃ B, fX10_passHour 5000 (xtw SX) (if bt st (nI k) = true then 0 else 9) S = some (iv B, S2) := ⟨_, r1⟩
    have key : ∃ w' sl' : Int32, fX11_drought_h60 5000 r (f + 1) (nI g) (nI n) tn lk st w sl (nI k) S = fX11_drought_h60 5000 r f (nI g) (nI n) tn lk st w' sl' (nI (k + 1)) S2 := by
      cases hb : bt st (nI k) with
      | false =>
        rw [hb, if_neg (by decide)] at r1
        refine ⟨w * (10 - tn), if iv B = 0 then sl else 1, ?_⟩
        show fX11_drought_b60 5000 r (fX11_drought_h60 5000 r f) (nI g) (nI n) tn lk st w sl (nI k) S = _
        unfold fX11_drought_b60
        rw [if_neg (nI_ge (by omega) (by omega))]
        unfold fX11_drought_b66
        rw [bnd_t x_isOneOf, hb]
        show fX11_drought_b112 5000 r (fX11_drought_h60 5000 r f) (nI g) (nI n) tn lk st (w * (10 - tn)) sl (nI k) (xtw S) 9 S = _
        unfold fX11_drought_b112
        rw [xWk.tw s, bnd_t r1]
        dsimp only
        by_cases hz : iv B = 0
        · rw [if_pos hz, if_pos hz]
          unfold fX11_drought_b121
          rw [nI_1]
        · rw [if_neg hz, if_neg hz]
          unfold fX11_drought_b118 fX11_drought_b121
          rw [nI_1]
      | true =>
        rw [hb, if_pos rfl] at r1
        refine ⟨w * tn, if iv B = 0 then sl else 1, ?_⟩
        show fX11_drought_b60 5000 r (fX11_drought_h60 5000 r f) (nI g) (nI n) tn lk st w sl (nI k) S = _
        unfold fX11_drought_b60
        rw [if_neg (nI_ge (by omega) (by omega))]
        unfold fX11_drought_b66
        rw [bnd_t x_isOneOf, hb]
        show fX11_drought_b112 5000 r (fX11_drought_h60 5000 r f) (nI g) (nI n) tn lk st (w * tn) sl (nI k) (xtw S) 0 S = _
        unfold fX11_drought_b112
        rw [xWk.tw s, bnd_t r1]
        dsimp only
        by_cases hz : iv B = 0
        · rw [if_pos hz, if_pos hz]
          unfold fX11_drought_b121
          rw [nI_1]
        · rw [if_neg hz, if_neg hz]
          unfold fX11_drought_b118 fX11_drought_b121
          rw [nI_1]
    obtain ⟨w', sl', e0⟩ := key
    obtain ⟨lk', S', e1, e2⟩ := ih (k + 1) f S2 w' sl' (by omega) (by omega) r2 (s.tr r3)
    exact ⟨lk', S', e0.trans e1, e2⟩
theorem stU {co : Nat → Int32} {ok : Nat → Prop} {FX : Nat → Option tR} {FM : Nat → Option (Int32 × gS)} (h : StpT JJ co ok FX FM) : StpU JJ co ok FX FM := by
  obtain ⟨N, ox, M, om, h1, h2, h3, h4, -, h6⟩ := h
  exact ⟨N, ox, M, om, h1, h2, h3, h4, h6⟩
theorem stSuU {co : Nat → Int32} {ok : Nat → Prop} {SX SM : gS} {FX : Nat → Option tR} {FM : Nat → Option (Int32 × gS)} (N M : Nat) (hJ : JJ SX SM) (hco : co 0 = 0) (hok : ok 0) (h1 : Gv (FX N) (fun r => r.1 = 0 ∧ xSame SX r.2.2)) (h2 : Gv (FM M) (fun r => mSame (sU SM 99 4 0) r.2 ∧ r.2 99 4 = 0)) : StpU JJ co ok FX FM := by
  obtain ⟨⟨t, w, SX'⟩, a1, a2, a4⟩ := h1
  obtain ⟨⟨u, SM'⟩, b1, b3, b4⟩ := h2
  dsimp only at a2 a4 b3 b4
  subst a2
  exact ⟨N, _, M, _, a1, b1, hok, b4.trans hco.symm, hJ.same a4 ((code_same SM 0).tr b3)⟩
theorem st_drought : Lw_drought JJ := by
  intro SX SM x1 x2 x3 hJ
  obtain ⟨S1, Z, h, qs, hS1, c0, hJ1, Zk, h9, C, M, K, w41, x0, x5⟩ := pre hJ
  have z6 := Zk.2.1.2
  have hF : fX12_drought 5000 x1 x2 x3 SM = if iv (inb x1 (tn1 Z)) = 0 then fX12_drought_b13 5000 S1 else fX12_drought_b19 5000 x1 x2 x3 S1 := by
    unfold fX12_drought fX12_drought_b0
    dsimp only [lt]
    rw [← hS1, bnd_t (m_isGuild M.1.2.1 (by omega))]
  have hG : fX12_drought_b19 5000 x1 x2 x3 S1 = if iv (wth x2 1 5) = 0 then fX12_drought_b43 5000 S1 else if iv (wth x3 0 10) = 0 then fX12_drought_b43 5000 S1 else fX12_drought_b49 5000 x1 x2 x3 S1 := by
    unfold fX12_drought_b19
    rw [bnd_t in_1_5]
    unfold fX12_drought_b31
    rw [bnd_t in_0_10]
  cases h1 : inb x1 (tn1 Z) with
  | false =>
    refine stU (stFl 5000 5000 1 hJ one_ne (Or.inr (Or.inl rfl)) (ngF x5 (by omega) h1) ?_)
    show fX12_drought 5000 x1 x2 x3 SM = _
    rw [hF, h1, ← hS1]
    rfl
  | true =>
  cases h2 : wth x2 1 5 with
  | false =>
    refine stU (stFl 5000 5000 2 hJ two_ne (Or.inr (Or.inr rfl)) ((ngT x5 (by omega) h1).trans (niF h2)) ?_)
    show fX12_drought 5000 x1 x2 x3 SM = _
    rw [hF, h1, ← hS1]
    show fX12_drought_b19 5000 x1 x2 x3 S1 = _
    rw [hG, h2]
    rfl
  | true =>
  cases h3 : wth x3 0 10 with
  | false =>
    refine stU (stFl 5000 5000 2 hJ two_ne (Or.inr (Or.inr rfl)) (((ngT x5 (by omega) h1).trans (niT h2)).trans (niF h3)) ?_)
    show fX12_drought 5000 x1 x2 x3 SM = _
    rw [hF, h1, ← hS1]
    show fX12_drought_b19 5000 x1 x2 x3 S1 = _
    rw [hG, h2, h3]
    rfl
  | true =>
  obtain ⟨g, hg, rfl⟩ := inb_of h1 (by omega)
  obtain ⟨n, n1, n2, rfl⟩ := wth_of (a := 1) (b := 5) (by decide) (by decide) h2
  have hgc : (nI g).toNatClampNeg = g := nI_clamp (by omega)
  have hin : inb (nI g) 6 = true := inb_t (by omega) (by decide)
  obtain ⟨S2, k1, k2, k3⟩ := q_pk (N := 5000) (S1 := S1) (nd := 46) (Or.inl rfl) (by decide)
  have hX : fX11_drought 5000 (nI g) (nI n) x3 SX = fX11_drought_h24 5000 5000 (nI g) (nI n) x3 0 0 SX := ((ngT x5 (by omega) h1).trans (niT h2)).trans (niT h3)
  have hM : fX12_drought 5000 (nI g) (nI n) x3 SM = fX12_drought_h72 5000 5000 (nI g) (nI n) x3 0 (qs g).2.2.1 0 S2 := by
    rw [hF, h1]
    show fX12_drought_b19 5000 (nI g) (nI n) x3 S1 = _
    rw [hG, h2, h3]
    show fX12_drought_b49 5000 (nI g) (nI n) x3 S1 = _
    unfold fX12_drought_b49
    rw [chk_t hin, bnd_t k1, hgc, (M.2.2.2.2 g hg).2.2.1]
  have p32 : 2 ^ n ≤ 32 := by
    rcases (show n = 1 ∨ n = 2 ∨ n = 3 ∨ n = 4 ∨ n = 5 by omega) with rfl | rfl | rfl | rfl | rfl <;> decide
  have hsh := shl_pow n (by omega)
  obtain ⟨rx, rm, a1, a2, a3⟩ := loop2 (A := Int32 × gS) (B := Int32 × gS) (fun f b a => fX11_drought_h24 5000 f (nI g) (nI n) x3 a.1 (nI b) a.2) (fun f b a => fX12_drought_h72 5000 f (nI g) (nI n) x3 a.1 (qs g).2.2.1 (nI b) a.2) (fun _ a b => oSame xWk SX a.2 ∧ mSam1 S1 b.2 ∧ b.2 99 4 = 0 ∧ ∀ j, b.2 46 j = S2 46 j) (fun r r' => r.1 = 0 ∧ xSame SX r.2.2 ∧ mSame S1 r'.2 ∧ r'.2 99 4 = 0) (2 ^ n) (by
      rintro f f' ⟨v, S⟩ ⟨v', S'⟩ ⟨i2, i3, i4, i5⟩
      dsimp only at i2 i3 i4 i5
      refine ⟨(0, v, S), (v', sU S' 99 41 (-1)), ?_, ?_, rfl, xWk.same i2, fun i j hij => ?_, ?_⟩
      · show fX11_drought_b24 5000 _ (nI g) (nI n) x3 v (nI (2 ^ n)) S = _
        unfold fX11_drought_b24
        rw [hsh, if_pos (nI_le (Nat.le_refl _) (by omega))]
        rfl
      · show fX12_drought_b72 5000 _ (nI g) (nI n) x3 v' _ (nI (2 ^ n)) S' = _
        unfold fX12_drought_b72
        rw [hsh, if_pos (nI_le (Nat.le_refl _) (by omega))]
        rfl
      · dsimp only
        by_cases h41 : i = 99 ∧ j = 41
        · rw [h41.1, h41.2, sU_s]; exact w41.symm
        · rw [sU_n h41]; exact i3 i j hij h41
      · dsimp only
        rw [sU_n (by omega)]; exact i4) (by
      rintro f f' b ⟨v, S⟩ ⟨v', S'⟩ hb ⟨i2, i3, i4, i5⟩
      dsimp only at i2 i3 i4 i5
      have C' := C.on (Or.inl rfl) i2
      obtain ⟨X1, b1, b2, b3⟩ := x_begin (N := 5000) (Or.inl rfl) Zk C' hg (by omega)
      obtain ⟨lk', X2, c1, c2⟩ := x_drought_h (n := n) (tn := x3) (lk := v) (st := nI b) (r := fX11_drought_h24 5000 f) Zk C.1 h9 n2 (by omega) (K.1 g hg) (K.2.2 g hg) b2 (i2.tr b3)
      obtain ⟨M2, d1, d2⟩ := m_drought_h (n := n) (tn := x3) (lk := v') (x5 := (qs g).2.2.1) (st := nI b) (r := fX12_drought_h72 5000 f') Zk K.h h9 n2 hg (M.on1 i3)
      obtain ⟨M4, u1, u2⟩ := k3 M2 (fun j => (d2 46 j rfl).trans (i5 j))
      refine ⟨(lk', X2), (if (trj Z (Z 5 g) (SX 21 1) (dwf (nI b) h) h (qs g) n).2.2.1 ≤ (qs g).2.2.1 then v' else v' + wtR (nI b) x3 n, M4), ⟨c2, mD_back i3 d2 u2, ?_, fun j => ?_⟩, ?_, ?_⟩
      · show M4 99 4 = 0
        rw [u2 99 4]
        exact (d2 99 4 rfl).trans i4
      · show M4 46 j = S2 46 j
        rw [u2 46 j]
        exact (d2 46 j rfl).trans (i5 j)
      · show fX11_drought_b24 5000 (fX11_drought_h24 5000 f) (nI g) (nI n) x3 v (nI b) S = _
        unfold fX11_drought_b24
        rw [hsh, if_neg (nI_ge hb (by omega))]
        unfold fX11_drought_b32
        dsimp only [lt]
        rw [bnd_t b1]
        dsimp only
        rw [c1, nI_1]
      · show fX12_drought_b72 5000 (fX12_drought_h72 5000 f') (nI g) (nI n) x3 v' _ (nI b) S' = _
        unfold fX12_drought_b72
        rw [hsh, if_neg (nI_ge hb (by omega))]
        unfold fX12_drought_b80
        rw [d1, bnd_t u1, nI_1]) (2 ^ n) 0 (0, SX) (0, S2) 5000 5000 (by omega) ⟨oSame.rf, fun i j h1 h2 => k2 i j (fun q => by rw [q] at h1; cases h1), by dsimp only; rw [k2 99 4 (by omega)]; exact c0, fun _ => rfl⟩ (by omega) (by omega)
  refine stSuU 5000 5000 hJ rfl (Or.inl rfl) ⟨rx, ?_, a3.1, a3.2.1⟩ ⟨rm, ?_, by rw [← hS1]; exact a3.2.2.1, a3.2.2.2⟩
  · show fX11_drought 5000 (nI g) (nI n) x3 SX = _
    rw [hX]
    exact a1
  · show fX12_drought 5000 (nI g) (nI n) x3 SM = _
    rw [hM]
    exact a2
