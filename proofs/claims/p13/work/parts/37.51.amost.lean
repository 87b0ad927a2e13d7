/-! most, confessing -/
noncomputable def gtN (v : Nat → Int32) : Nat → Nat
  | 0 => 0
  | g + 1 => if g = 0 then 0 else if v g ≤ v (gtN v g) then gtN v g else g
noncomputable def gtR (v : Nat → Int32) (n : Nat) : Int32 := if n = 0 then -1 else nI (gtN v n)
theorem gtN_lt {v : Nat → Int32} : ∀ n, 0 < n → gtN v n < n := by
  intro n
  induction n with
  | zero => intro h; omega
  | succ n ih =>
    intro _
    show (if n = 0 then 0 else if v n ≤ v (gtN v n) then gtN v n else n) < n + 1
    by_cases h0 : n = 0
    · rw [if_pos h0]; omega
    · rw [if_neg h0]
      have := ih (by omega)
      by_cases h1 : v n ≤ v (gtN v n)
      · rw [if_pos h1]; omega
      · rw [if_neg h1]; omega
theorem gtN_eq {v v' : Nat → Int32} : ∀ n, (∀ i, i < n → v i = v' i) → gtN v n = gtN v' n := by
  intro n
  induction n with
  | zero => intro _; rfl
  | succ n ih =>
    intro h
    have e := ih (fun i hi => h i (by omega))
    show (if n = 0 then 0 else if v n ≤ v (gtN v n) then gtN v n else n) = (if n = 0 then 0 else if v' n ≤ v' (gtN v' n) then gtN v' n else n)
    by_cases h0 : n = 0
    · rw [if_pos h0, if_pos h0]
    · have hl := gtN_lt (v := v') n (by omega)
      rw [if_neg h0, if_neg h0, e, h n (by omega), h (gtN v' n) (by omega)]
theorem gtR_eq {v v' : Nat → Int32} {n : Nat} (h : ∀ i, i < n → v i = v' i) : gtR v n = gtR v' n := by
  unfold gtR
  rw [gtN_eq n h]
theorem m_greatest {N n k1 : Nat} {S : gS} (hn : S 5 1 = nI n) (h6 : n ≤ 6) (hk : mN k1 = 6) (hN : 700 < N) : fX12_greatest N k1 S = some (gtR (S k1) n, S) := by
  have main : Gv (fX12_greatest_h4 N N k1 (-1) 0 S) (fun r => r = (gtR (S k1) n, S)) := by
    refine loopG (A := Int32) (fun f g x => fX12_greatest_h4 N f k1 x (nI g) S) (fun g x => x = gtR (S k1) g) _ n ?_ ?_ n 0 (-1) N (by omega) rfl (by omega)
    · rintro f x rfl
      show Gv (fX12_greatest_b4 N _ k1 _ (nI n) S) _
      unfold fX12_greatest_b4
      rw [hn, if_pos (nI_le (Nat.le_refl _) (by omega))]
      exact ⟨_, rfl, rfl⟩
    · rintro f g x hg rfl
      refine Or.inr ⟨gtR (S k1) (g + 1), rfl, ?_⟩
      show fX12_greatest_b4 N (fX12_greatest_h4 N f) k1 _ (nI g) S = _
      unfold fX12_greatest_b4
      rw [hn, if_neg (nI_ge hg (by omega))]
      unfold fX12_greatest_b14 gtR
      by_cases h0 : g = 0
      · subst h0
        rw [if_pos rfl, if_pos rfl]
        unfold fX12_greatest_b28 fX12_greatest_b30
        rfl
      · have hl := gtN_lt (v := S k1) g (by omega)
        rw [if_neg h0, if_neg (nI_nem (by omega)), if_neg (Nat.succ_ne_zero g)]
        unfold fX12_greatest_b19
        rw [hk, chk_t (inb_t (by omega) (by decide)), chk_t (inb_t (by omega) (by decide)), nI_clamp (n := g) (by omega), nI_clamp (n := gtN (S k1) g) (by omega)]
        show _ = fX12_greatest_h4 N f k1 (nI (if g = 0 then 0 else if S k1 g ≤ S k1 (gtN (S k1) g) then gtN (S k1) g else g)) (nI (g + 1)) S
        rw [if_neg h0]
        by_cases h1 : S k1 g ≤ S k1 (gtN (S k1) g)
        · rw [if_pos h1, if_pos h1]
          unfold fX12_greatest_b30
          rw [nI_1]
        · rw [if_neg h1, if_neg h1]
          unfold fX12_greatest_b28 fX12_greatest_b30
          rw [nI_1]
  obtain ⟨r, r1, rfl⟩ := main
  exact r1
noncomputable def muV (x2 : Int32) (q : qT) : Int32 := if x2 = 0 then q.2.1 else q.1
theorem x_most_h {Z SX : gS} {h c : Nat} {d x2 : Int32} {qs : Nat → qT} (Zk : tOK Z) (C : cSit 21 Z SX h d qs) (K : qsOK Z (Z 5) qs) (h9 : h ≤ 999) (hc : c ≤ 60) : Gv (fX11_most_h20 5000 5000 (nI c) x2 (-1) (-1) 0 SX) (fun r => r.1 = 0 ∧ r.2.1 = gtR (fun g => muV x2 (trj Z (Z 5 g) d (wetZ Z) h (qs g) c)) (tn1 Z) ∧ xSame SX r.2.2) := by
  have z6 := Zk.2.1.2
  obtain ⟨v, hv⟩ : ∃ z : Nat → Int32, z = fun g => muV x2 (trj Z (Z 5 g) d (wetZ Z) h (qs g) c) := ⟨_, rfl⟩
  rw [← hv]
  have hv0 : ∀ g, g < tn1 Z → ¬ v g ≤ -1 := by
    intro g hg hh
    have hq := trj_ok (Z := Z) (d := d) (wf := wetZ Z) (h := h) (K.1 g hg) (K.2.2 g hg) c
    have h0 : 0 ≤ v g := by
      rw [hv]
      show 0 ≤ muV x2 _
      unfold muV
      by_cases hx : x2 = 0
      · rw [if_pos hx]; exact hq.2.1.1
      · rw [if_neg hx]; exact hq.1.1
    exact absurd (Int32.le_trans h0 hh) (by decide)
  refine loopG (A := Int32 × Int32 × gS) (fun f g a => fX11_most_h20 5000 f (nI c) x2 a.1 a.2.1 (nI g) a.2.2) (fun g a => a.1 = gtR v g ∧ a.2.1 = (if g = 0 then -1 else v (gtN v g)) ∧ oSame xWk SX a.2.2) _ (tn1 Z) ?_ ?_ (tn1 Z) 0 (-1, -1, SX) 5000 (by omega) ⟨rfl, rfl, oSame.rf⟩ (by omega)
  · rintro f ⟨x, y, S⟩ ⟨i1, i2, i3⟩
    dsimp only at i1 i2 i3
    refine ⟨(0, x, S), ?_, rfl, i1, xWk.same i3⟩
    show fX11_most_b20 5000 _ (nI c) x2 x y (nI (tn1 Z)) S = _
    unfold fX11_most_b20
    dsimp only [lt]
    have C' := C.on (Or.inl rfl) i3
    rw [show S (xtw S) 5 = nI (tn1 Z) from (C'.1 0 5 (by omega) (by omega)).trans Zk.2.1.1, if_pos (nI_le (Nat.le_refl _) (by omega))]
    rfl
  · rintro f g ⟨x, y, S⟩ hg ⟨i1, i2, i3⟩
    dsimp only at i1 i2 i3
    have C' := C.on (Or.inl rfl) i3
    obtain ⟨X1, b1, b2, b3⟩ := x_begin (N := 5000) (Or.inl rfl) Zk C' hg (by omega)
    obtain ⟨X2, p1, p2, p3⟩ := x_passHours (N := 5000) (n := c) xtw_cases Zk (C'.1.on xtw_cases b3) (K.1 g hg) (K.2.2 g hg) b2 (by omega) (by omega) (by decide)
    have hF : fX11_most_h20 5000 (f + 1) (nI c) x2 x y (nI g) S = fX11_most_b85 5000 (fX11_most_h20 5000 f) (nI c) x2 x y (nI g) (v g) X2 := by
      show fX11_most_b20 5000 (fX11_most_h20 5000 f) (nI c) x2 x y (nI g) S = _
      unfold fX11_most_b20
      dsimp only [lt]
      rw [show S (xtw S) 5 = nI (tn1 Z) from (C'.1 0 5 (by omega) (by omega)).trans Zk.2.1.1, if_neg (nI_ge hg (by omega))]
      unfold fX11_most_b32
      dsimp only [lt]
      rw [bnd_t b1]
      dsimp only
      rw [xWk.tw b3, bnd_t p1]
      dsimp only
      rw [hv]
      show _ = fX11_most_b85 5000 (fX11_most_h20 5000 f) (nI c) x2 x y (nI g) (muV x2 _) X2
      unfold muV
      by_cases hx : x2 = 0
      · rw [if_pos hx, if_pos hx]
        unfold fX11_most_b68
        rw [p2.2.2.1]
      · rw [if_neg hx, if_neg hx]
        unfold fX11_most_b78
        rw [p2.2.1]
    refine Or.inr ?_
    have s2 := (i3.tr b3).tr p3
    by_cases h0 : g = 0
    · subst h0
      refine ⟨(nI 0, v 0, X2), ⟨rfl, rfl, s2⟩, ?_⟩
      show fX11_most_h20 5000 (f + 1) (nI c) x2 x y (nI 0) S = _
      rw [hF, i2, if_pos rfl]
      unfold fX11_most_b85
      rw [if_neg (hv0 0 hg)]
      rfl
    · have e1 : gtN v (g + 1) = if v g ≤ v (gtN v g) then gtN v g else g := if_neg h0
      have e2 : gtR v g = nI (gtN v g) := if_neg h0
      rw [if_neg h0] at i2
      by_cases h1 : v g ≤ v (gtN v g)
      · rw [if_pos h1] at e1
        refine ⟨(x, y, X2), ⟨?_, ?_, s2⟩, ?_⟩
        · show x = gtR v (g + 1)
          unfold gtR
          rw [if_neg (Nat.succ_ne_zero g), e1, i1, e2]
        · show y = if g + 1 = 0 then -1 else v (gtN v (g + 1))
          rw [if_neg (Nat.succ_ne_zero g), e1, i2]
        · show fX11_most_h20 5000 (f + 1) (nI c) x2 x y (nI g) S = _
          rw [hF]
          unfold fX11_most_b85
          rw [i2, if_pos h1]
          unfold fX11_most_b101
          rw [nI_1]
      · rw [if_neg h1] at e1
        refine ⟨(nI g, v g, X2), ⟨?_, ?_, s2⟩, ?_⟩
        · show nI g = gtR v (g + 1)
          unfold gtR
          rw [if_neg (Nat.succ_ne_zero g), e1]
        · show v g = if g + 1 = 0 then -1 else v (gtN v (g + 1))
          rw [if_neg (Nat.succ_ne_zero g), e1]
        · show fX11_most_h20 5000 (f + 1) (nI c) x2 x y (nI g) S = _
          rw [hF]
          unfold fX11_most_b85
          rw [i2, if_neg h1]
          unfold fX11_most_b94 fX11_most_b101
          rw [nI_1]
theorem st_most : Lw_most JJ := by
  intro SX SM x1 x2 hJ
  obtain ⟨S1, Z, h, qs, hS1, c0, hJ1, Zk, h9, C, M, K, w41, x0, x5⟩ := pre hJ
  have z6 := Zk.2.1.2
  have hF : fX12_most 5000 x1 x2 SM = if x2 < 0 then fX12_most_b14 5000 S1 else fX12_most_b9 5000 x1 x2 S1 := by
    unfold fX12_most fX12_most_b0
    dsimp only [lt]
    rw [← hS1]
  have hH : fX12_most_b20 5000 x1 x2 S1 = if iv (wth x1 0 60) = 0 then fX12_most_b32 5000 S1 else fX12_most_b38 5000 x1 x2 S1 := by
    unfold fX12_most_b20
    rw [bnd_t in_0_60]
  cases h3 : wth x2 0 1 with
  | false =>
    refine stFl 5000 5000 1 hJ one_ne (Or.inr (Or.inl rfl)) (nwF h3) ?_
    show fX12_most 5000 x1 x2 SM = _
    rw [hF, ← hS1]
    rcases w01F h3 with q | ⟨q1, q2⟩
    · rw [if_pos q]
      rfl
    · rw [if_neg q1]
      unfold fX12_most_b9
      rw [if_neg q2]
      rfl
  | true =>
  obtain ⟨y1, y2, -⟩ := w01T h3
  have hG : fX12_most 5000 x1 x2 SM = fX12_most_b20 5000 x1 x2 S1 := by
    rw [hF, if_neg y1]
    unfold fX12_most_b9
    rw [if_pos y2]
  cases h2 : wth x1 0 60 with
  | false =>
    refine stFl 5000 5000 2 hJ two_ne (Or.inr (Or.inr rfl)) ((nwT h3).trans (niF h2)) ?_
    show fX12_most 5000 x1 x2 SM = _
    rw [hG, hH, h2, ← hS1]
    rfl
  | true =>
  obtain ⟨c, -, c2, rfl⟩ := wth_of (a := 0) (b := 60) (by decide) (by decide) h2
  obtain ⟨S2, k1, k2, k3, -, -, -, k4⟩ := q_go M w41 c0
  obtain ⟨S3, r1, r2, r3⟩ := m_goOn (N := 5000) (n := c) Zk K.h (by omega) (by decide) (by omega) k2 k3
  obtain ⟨S4, u1, u2, u3⟩ := k4 S3 r3
  refine stSu 5000 5000 (gtR (fun g => muV x2 (trj Z (Z 5 g) (SX 21 1) (wetZ Z) h (qs g) c)) (tn1 Z)) hJ rfl (Or.inl rfl) ?_ ⟨(gtR (fun g => muV x2 (trj Z (Z 5 g) (SX 21 1) (wetZ Z) h (qs g) c)) (tn1 Z), S4), ?_, rfl, by rw [← hS1]; exact u2, u3⟩
  · have e : fX11_most 5000 (nI c) x2 SX = fX11_most_h20 5000 5000 (nI c) x2 (-1) (-1) 0 SX := (nwT h3).trans (niT h2)
    show Gv (fX11_most 5000 (nI c) x2 SX) _
    rw [e]
    exact x_most_h Zk C K h9 c2
  · show fX12_most 5000 (nI c) x2 SM = _
    rw [hG, hH, h2]
    show fX12_most_b38 5000 (nI c) x2 S1 = _
    unfold fX12_most_b38
    rw [bnd_t k1]
    dsimp only
    rw [bnd_t r1]
    dsimp only
    by_cases hx : x2 = 0
    · rw [if_pos hx]
      unfold fX12_most_b57 fX12_most_b68
      rw [bnd_t (m_greatest (n := tn1 Z) r2.1.2.1 z6 rfl (by decide))]
      dsimp only
      rw [bnd_t u1, gtR_eq (v := S3 33) (v' := fun g => muV x2 (trj Z (Z 5 g) (SX 21 1) (wetZ Z) h (qs g) c)) (fun i hi => by
        show _ = muV x2 _
        unfold muV
        rw [if_pos hx]
        exact (r2.2.2.2.2 i hi).2.1)]
    · rw [if_neg hx]
      unfold fX12_most_b64 fX12_most_b68
      rw [bnd_t (m_greatest (n := tn1 Z) r2.1.2.1 z6 rfl (by decide))]
      dsimp only
      rw [bnd_t u1, gtR_eq (v := S3 32) (v' := fun g => muV x2 (trj Z (Z 5 g) (SX 21 1) (wetZ Z) h (qs g) c)) (fun i hi => by
        show _ = muV x2 _
        unfold muV
        rw [if_neg hx]
        exact (r2.2.2.2.2 i hi).1)]
/-! one GUILD's row put anew -/
noncomputable def upq (qs : Nat → qT) (g : Nat) (q : qT) : Nat → qT := fun g' => if g' = g then q else qs g'
theorem upq_s {qs : Nat → qT} {g : Nat} {q : qT} : upq qs g q g = q := if_pos rfl
theorem upq_n {qs : Nat → qT} {g g' : Nat} {q : qT} (h : g' ≠ g) : upq qs g q g' = qs g' := if_neg h
theorem mSit.up {Z S S' : gS} {h g : Nat} {d : Int32} {e : Nat → Int32} {qs : Nat → qT} {q : qT} (M : mSit Z S h d e qs) (s : ∀ i j, ¬ (32 ≤ i ∧ i ≤ 35 ∧ j = g) → S' i j = S i j) (r1 : S' 32 g = q.1) (r2 : S' 33 g = q.2.1) (r3 : S' 34 g = q.2.2.1) (r4 : S' 35 g = q.2.2.2) : mSit Z S' h d e (upq qs g q) := by
  obtain ⟨m1, m2, m3, m4, m5⟩ := M
  refine ⟨m1.on (fun i j h1 h2 => s i j (by omega)), fun g' hg => by rw [s 18 g' (by omega)]; exact m2 g' hg, by rw [s 99 37 (by omega)]; exact m3, by rw [s 99 38 (by omega)]; exact m4, fun g' hg => ?_⟩
  by_cases hh : g' = g
  · subst hh
    rw [upq_s]
    exact ⟨r1, r2, r3, r4⟩
  · rw [upq_n hh, s 32 g' (by omega), s 33 g' (by omega), s 34 g' (by omega), s 35 g' (by omega)]
    exact m5 g' hg
theorem qsOK.up {Z : gS} {g : Nat} {e : Nat → Int32} {qs : Nat → qT} {q : qT} (K : qsOK Z e qs) (hq : qOK (tn0 Z) q) (hu : q.2.2.2 = -1 ∨ ∀ g', g' < tn1 Z → g' ≠ g → (qs g').2.2.2 ≠ q.2.2.2) : qsOK Z e (upq qs g q) := by
  obtain ⟨k1, k2, k3⟩ := K
  refine ⟨fun g' hg' => ?_, fun a b ha hb h1 h2 => ?_, k3⟩
  · by_cases hh : g' = g
    · rw [hh, upq_s]; exact hq
    · rw [upq_n hh]; exact k1 g' hg'
  · by_cases h3 : a = g
    · by_cases h4 : b = g
      · rw [h3, h4]
      · rw [h3, upq_s] at h1 h2
        rw [upq_n h4] at h1
        rcases hu with hu | hu
        · exact absurd hu h2
        · exact absurd h1.symm (hu b hb h4)
    · by_cases h4 : b = g
      · rw [h4, upq_s, upq_n h3] at h1
        rw [upq_n h3] at h2
        rcases hu with hu | hu
        · exact absurd (h1.trans hu) h2
        · exact absurd h1 (hu a ha h3)
      · rw [upq_n h3, upq_n h4] at h1
        rw [upq_n h3] at h2
        exact k2 a b ha hb h1 h2
/-! confessing -/
noncomputable def cfq (q : qT) : qT := (q.1 / 2, q.2.1 - 50, q.2.2)
theorem cfq_ok {n0 : Nat} {q : qT} (h : qOK n0 q) (h5 : ¬ q.2.1 < 50) : qOK n0 (cfq q) := by
  obtain ⟨a, b, c⟩ := h
  obtain ⟨x, hx, ex⟩ := i32_99 a
  obtain ⟨y, hy, ey⟩ := i32_999 b
  refine ⟨?_, ?_, c⟩
  · show 0 ≤ q.1 / 2 ∧ q.1 / 2 ≤ 99
    rw [ex, show (2 : Int32) = nI 2 from rfl, pk_div (by omega) (by decide) (by decide)]
    exact of_99 (by omega)
  · show 0 ≤ q.2.1 - 50 ∧ q.2.1 - 50 ≤ 999
    rw [ey] at h5 ⊢
    have h6 : 50 ≤ y := by
      have := mt (nI_ltI (a := y) (b := 50) (by omega) (by omega)).mpr h5
      omega
    rw [show (50 : Int32) = nI 50 from rfl, pk_sub h6]
    exact of_999 (by omega)
theorem cfq_up {Z : gS} {g : Nat} {e : Nat → Int32} {qs : Nat → qT} (K : qsOK Z e qs) (hg : g < tn1 Z) (h5 : ¬ (qs g).2.1 < 50) : qsOK Z e (upq qs g (cfq (qs g))) := by
  refine K.up (cfq_ok (K.1 g hg) h5) ?_
  by_cases hn : (qs g).2.2.2 = -1
  · exact Or.inl hn
  · exact Or.inr (fun g' hg' hne hh => hne (K.2.1 g' g hg' hg hh (fun q => hn (hh.symm.trans q))))
theorem m_canConfess {N g : Nat} {Z S : gS} {h : Nat} {d : Int32} {e : Nat → Int32} {qs : Nat → qT} (Zk : tOK Z) (M : mSit Z S h d e qs) (hg : g < tn1 Z) : fX12_canConfess N (nI g) S = some (iv (decide (¬ (qs g).2.1 < 50)), S) := by
  have z6 := Zk.2.1.2
  unfold fX12_canConfess fX12_canConfess_b0
  rw [chk_t (inb_t (by omega) (by decide)), nI_clamp (by omega), (M.2.2.2.2 g hg).2.1]
  by_cases h5 : (qs g).2.1 < 50
  · rw [if_pos h5, decide_eq_false (fun q => q h5)]
    rfl
  · rw [if_neg h5, decide_eq_true h5]
    rfl
theorem m_doConfess {N g : Nat} {Z S : gS} {h : Nat} {d : Int32} {e : Nat → Int32} {qs : Nat → qT} (Zk : tOK Z) (M : mSit Z S h d e qs) (hg : g < tn1 Z) : ∃ S', fX12_doConfess N (nI g) S = some (0, S') ∧ mSit Z S' h d e (upq qs g (cfq (qs g))) ∧ ∀ i j, ¬ ((i = 32 ∨ i = 33) ∧ j = g) → S' i j = S i j := by
  have z6 := Zk.2.1.2
  obtain ⟨m1, m2, m3, m4⟩ := M.2.2.2.2 g hg
  have s : ∀ i j, ¬ ((i = 32 ∨ i = 33) ∧ j = g) → sU (sU S 33 g ((qs g).2.1 - 50)) 32 g ((qs g).1 / 2) i j = S i j := fun i j hij => by rw [sU_n (by omega), sU_n (by omega)]
  refine ⟨sU (sU S 33 g ((qs g).2.1 - 50)) 32 g ((qs g).1 / 2), ?_, M.up (fun i j hij => s i j (by omega)) ?_ ?_ ?_ ?_, s⟩
  · unfold fX12_doConfess fX12_doConfess_b0
    dsimp only [lt]
    rw [nI_clamp (by omega), chk_t (inb_t (by omega) (by decide)), chk_t (inb_t (by omega) (by decide)), chk_t (inb_t (by omega) (by decide)), chk_t (inb_t (by omega) (by decide)), sU_n (i := 32) (by omega), m1, m2]
  · rw [sU_s]; rfl
  · rw [sU_n (by omega), sU_s]; rfl
  · rw [s 34 g (by omega)]; exact m3
  · rw [s 35 g (by omega)]; exact m4
theorem x_repent {N : Nat} {S : gS} {e d ho : Int32} {q : qT} (W : wkA S e d ho q) : ∃ S', fX10_repent N S = some (0, S') ∧ wkA S' e d ho (cfq q) ∧ oSame xWk S S' := by
  obtain ⟨w0, w1, w2, w3, w4, w5, w7⟩ := W
  refine ⟨sU (sU S 51 2 (q.2.1 - 50)) 51 1 (q.1 / 2), ?_, ⟨?_, ?_, ?_, ?_, ?_, ?_, ?_⟩, (oSame.rf.up rfl).up rfl⟩
  · unfold fX10_repent fX10_repent_b0
    dsimp only [lt]
    rw [sU_n (i := 51) (j := 1) (by omega), w1, w2]
  · rw [sU_n (by omega), sU_n (by omega)]; exact w0
  · rw [sU_s]; rfl
  · rw [sU_n (by omega), sU_s]; rfl
  · rw [sU_n (by omega), sU_n (by omega)]; exact w3
  · rw [sU_n (by omega), sU_n (by omega)]; exact w4
  · rw [sU_n (by omega), sU_n (by omega)]; exact w5
  · rw [sU_n (by omega), sU_n (by omega)]; exact w7
theorem mHo_of {S S' : gS} {g : Nat} (hg : g < 6) (s : ∀ i j, ¬ (32 ≤ i ∧ i ≤ 35 ∧ j = g) → S' i j = S i j) : oSame mHo S S' := by
  intro i j hij
  obtain ⟨-, -, h3, -⟩ := mHo_f hij
  exact s i j (by omega)
theorem st_confessing : Lw_confessing JJ := by
  intro SX SM x1 x2 hJ
  obtain ⟨S1, Z, h, qs, hS1, c0, hJ1, Zk, h9, C, M, K, w41, x0, x5⟩ := pre hJ
  have z6 := Zk.2.1.2
  have hF : fX12_confessing 5000 x1 x2 SM = if iv (inb x1 (tn1 Z)) = 0 then fX12_confessing_b13 5000 S1 else fX12_confessing_b19 5000 x1 x2 S1 := by
    unfold fX12_confessing fX12_confessing_b0
    dsimp only [lt]
    rw [← hS1, bnd_t (m_isGuild M.1.2.1 (by omega))]
  have hH : fX12_confessing_b19 5000 x1 x2 S1 = if iv (wth x2 0 60) = 0 then fX12_confessing_b31 5000 S1 else fX12_confessing_b37 5000 x1 x2 S1 := by
    unfold fX12_confessing_b19
    rw [bnd_t in_0_60]
  cases h1 : inb x1 (tn1 Z) with
  | false =>
    refine stFl 5000 5000 1 hJ one_ne (Or.inr (Or.inl rfl)) (ngF x5 (by omega) h1) ?_
    show fX12_confessing 5000 x1 x2 SM = _
    rw [hF, h1, ← hS1]
    rfl
  | true =>
  cases h2 : wth x2 0 60 with
  | false =>
    refine stFl 5000 5000 2 hJ two_ne (Or.inr (Or.inr rfl)) ((ngT x5 (by omega) h1).trans (niF h2)) ?_
    show fX12_confessing 5000 x1 x2 SM = _
    rw [hF, h1, ← hS1]
    show fX12_confessing_b19 5000 x1 x2 S1 = _
    rw [hH, h2]
    rfl
  | true =>
  obtain ⟨g, hg, rfl⟩ := inb_of h1 (by omega)
  obtain ⟨c, -, c2, rfl⟩ := wth_of (a := 0) (b := 60) (by decide) (by decide) h2
  have hgc : (nI g).toNatClampNeg = g := nI_clamp (by omega)
  have hin : inb (nI g) 6 = true := inb_t (by omega) (by decide)
  have hX : fX11_confessing 5000 (nI g) (nI c) SX = if 50 ≤ (qs g).2.1 then fX11_confessing_b31 5000 (nI g) (nI c) SX else fX11_confessing_b29 5000 SX := by
    refine (ngT x5 (by omega) h1).trans ((niT h2).trans ?_)
    dsimp only
    rw [chk_t hin, hgc]
    simp only [show SX 23 g = (qs g).2.1 from (C.2.2.2 g hg).2.1]
  have hM : fX12_confessing 5000 (nI g) (nI c) SM = if iv (decide (¬ (qs g).2.1 < 50)) = 0 then fX12_confessing_b45 5000 S1 else fX12_confessing_b47 5000 (nI g) (nI c) S1 := by
    rw [hF, h1]
    show fX12_confessing_b19 5000 (nI g) (nI c) S1 = _
    rw [hH, h2]
    show fX12_confessing_b37 5000 (nI g) (nI c) S1 = _
    unfold fX12_confessing_b37
    rw [bnd_t (m_canConfess Zk M hg)]
  by_cases h5 : (qs g).2.1 < 50
  · refine stSu 5000 5000 0 hJ rfl (Or.inl rfl) ⟨(0, 0, SX), ?_, rfl, rfl, xSame.rf⟩ ⟨(0, S1), ?_, rfl, by rw [← hS1]; exact mSame.rf, c0⟩
    · show fX11_confessing 5000 (nI g) (nI c) SX = _
      rw [hX, if_neg (Int32.not_le.mpr h5)]
      rfl
    · show fX12_confessing 5000 (nI g) (nI c) SM = _
      rw [hM, decide_eq_false (fun q => q h5)]
      rfl
  · obtain ⟨X1, b1, b2, b3⟩ := x_begin (N := 5000) (Or.inl rfl) Zk C hg (by omega)
    obtain ⟨X2, p1, p2, p3⟩ := x_passHours (N := 5000) (n := c) xtw_cases Zk (C.1.on xtw_cases b3) (K.1 g hg) (K.2.2 g hg) b2 (by omega) (by omega) (by decide)
    have C2 := C.on (Or.inl rfl) (b3.tr p3)
    obtain ⟨X3, d1, d2, d3⟩ := x_begin (N := 5000) (Or.inl rfl) Zk C2 hg (by omega)
    obtain ⟨X4, e1, e2, e3⟩ := x_repent (N := 5000) d2
    obtain ⟨X5, f1, f2, f3⟩ := x_passHours (N := 5000) (n := c) xtw_cases Zk (C2.1.on xtw_cases (d3.tr e3)) (cfq_ok (K.1 g hg) h5) (K.2.2 g hg) e2 (by omega) (by omega) (by decide)
    obtain ⟨S2, k1, k2, k3, k5, k7, k6, k4⟩ := q_go M w41 c0
    obtain ⟨S3, r1, r2, r3⟩ := m_goOn (N := 5000) (n := c) Zk K.h (by omega) (by decide) (by omega) k2 k3
    obtain ⟨S4, u1, u2, u3, u4⟩ := k6 S3 (fun j => r3 46 j rfl) (k5.q.tr r3.q)
    obtain ⟨S5, v1, v2, v3⟩ := m_doConfess (N := 5000) Zk (M.on u2) hg
    have v4 : oSame mHo S4 S5 := mHo_of (g := g) (by omega) (fun i j hij => v3 i j (by omega))
    obtain ⟨S6, w1, w2, w3⟩ := m_goOn (N := 5000) (n := c) Zk (cfq_up K hg h5).h (by omega) (by decide) (by omega) v2 (by rw [v4 99 41 rfl, u2 99 41 rfl]; exact w41)
    obtain ⟨S7, y1, y2, y3, y4⟩ := k6 S6 (fun j => by
      rw [w3 46 j rfl, v4 46 j rfl, u4 46 j]
      exact r3 46 j rfl) (u2.q.tr (v4.q.tr w3.q))
    refine stSu 5000 5000 ((trj Z (Z 5 g) (SX 21 1) (wetZ Z) h (qs g) c).1 - (trj Z (Z 5 g) (SX 21 1) (wetZ Z) h (cfq (qs g)) c).1) hJ rfl (Or.inl rfl) ⟨(0, ((trj Z (Z 5 g) (SX 21 1) (wetZ Z) h (qs g) c).1 - (trj Z (Z 5 g) (SX 21 1) (wetZ Z) h (cfq (qs g)) c).1), X5), ?_, rfl, rfl, xWk.same (((((b3.tr p3).tr d3).tr e3).tr f3))⟩ ⟨(((trj Z (Z 5 g) (SX 21 1) (wetZ Z) h (qs g) c).1 - (trj Z (Z 5 g) (SX 21 1) (wetZ Z) h (cfq (qs g)) c).1), S7), ?_, rfl, by rw [← hS1]; exact y2, ?_⟩
    · show fX11_confessing 5000 (nI g) (nI c) SX = _
      rw [hX, if_pos (Int32.not_lt.mp h5)]
      unfold fX11_confessing_b31
      dsimp only [lt]
      rw [bnd_t b1]
      dsimp only
      rw [xWk.tw b3, bnd_t p1]
      dsimp only
      rw [xWk.tw (b3.tr p3)] at d1
      rw [xWk.tw (b3.tr p3), bnd_t d1]
      dsimp only
      rw [bnd_t e1]
      dsimp only
      rw [xWk.tw (b3.tr p3)] at f1
      rw [xWk.tw (((b3.tr p3).tr d3).tr e3), bnd_t f1]
      dsimp only
      rw [p2.2.1, f2.2.1]
    · show fX12_confessing 5000 (nI g) (nI c) SM = _
      rw [hM, decide_eq_true h5]
      show fX12_confessing_b47 5000 (nI g) (nI c) S1 = _
      unfold fX12_confessing_b47
      rw [bnd_t k1]
      dsimp only
      rw [bnd_t r1]
      dsimp only
      rw [chk_t hin, bnd_t u1]
      dsimp only
      rw [bnd_t v1]
      dsimp only
      rw [bnd_t w1]
      dsimp only
      rw [chk_t hin, bnd_t y1, hgc, (r2.2.2.2.2 g hg).1, (w2.2.2.2.2 g hg).1]
      dsimp only
      rw [upq_s]
    · dsimp only
      rw [y3, w3 99 4 rfl, v4 99 4 rfl, u3, r3 99 4 rfl]
      exact k7
