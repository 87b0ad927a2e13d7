/-! loops of both sides at once; drought -/
theorem loop2 {A B R R' : Type} (H : Nat → Nat → A → Option R) (H' : Nat → Nat → B → Option R') (I : Nat → A → B → Prop) (Q : R → R' → Prop) (n : Nat) (he : ∀ f f' a b, I n a b → ∃ r r', H (f + 1) n a = some r ∧ H' (f' + 1) n b = some r' ∧ Q r r') (hs : ∀ f f' k a b, k < n → I k a b → ∃ a' b', I (k + 1) a' b' ∧ H (f + 1) k a = H f (k + 1) a' ∧ H' (f' + 1) k b = H' f' (k + 1) b') : ∀ (m k : Nat) (a : A) (b : B) (fuel fuel' : Nat), k + m = n → I k a b → m < fuel → m < fuel' → ∃ r r', H fuel k a = some r ∧ H' fuel' k b = some r' ∧ Q r r' := by
  intro m
  induction m with
  | zero =>
    intro k a b fuel fuel' h1 h2 h3 h4
    obtain ⟨f, rfl⟩ : ∃ f, fuel = f + 1 := ⟨fuel - 1, by omega⟩
    obtain ⟨f', rfl⟩ : ∃ f, fuel' = f + 1 := ⟨fuel' - 1, by omega⟩
    have : k = n := by omega
    subst this
    exact he f f' a b h2
  | succ m ih =>
    intro k a b fuel fuel' h1 h2 h3 h4
    obtain ⟨f, rfl⟩ : ∃ f, fuel = f + 1 := ⟨fuel - 1, by omega⟩
    obtain ⟨f', rfl⟩ : ∃ f, fuel' = f + 1 := ⟨fuel' - 1, by omega⟩
    obtain ⟨a', b', h5, h6, h7⟩ := hs f f' k a b (by omega) h2
    rw [h6, h7]
    exact ih (k + 1) a' b' f f' (by omega) h5 (by omega) (by omega)
def dwf (st : Int32) (h : Nat) : Nat → Int32 := fun j => if bt st (nI (j - h)) = true then 0 else 9
def wtR (st tn : Int32) : Nat → Int32
  | 0 => 1
  | k + 1 => wtR st tn k * (if bt st (nI k) = true then tn else 10 - tn)
theorem x_drought_h {Z SX S : gS} {h n g : Nat} {d st tn lk : Int32} {q : qT} {r : Int32 → Int32 → Int32 → Int32 → Int32 → gS → Option tR} (Zk : tOK Z) (hx : tXz (xtw SX) Z SX) (h9 : h ≤ 999) (hn : n ≤ 5) (hg : g < 6) (hq : qOK (tn0 Z) q) (he : eOK (Z 5 g)) (W : wkA S (Z 5 g) d (nI h) q) (s : oSame xWk SX S) : ∃ S', fX11_drought_h57 5000 r 5000 (nI g) (nI n) tn lk st 1 0 S = (if (trj Z (Z 5 g) d (dwf st h) h q n).2.2.1 ≤ SX 24 g then r (nI g) (nI n) tn lk (st + 1) S' else r (nI g) (nI n) tn (lk + wtR st tn n) (st + 1) S') ∧ oSame xWk SX S' := by
  suffices L : ∀ (m k fuel : Nat) (S : gS), k + m = n → m < fuel → wkA S (Z 5 g) d (nI (h + k)) (trj Z (Z 5 g) d (dwf st h) h q k) → oSame xWk SX S → ∃ S', fX11_drought_h57 5000 r fuel (nI g) (nI n) tn lk st (wtR st tn k) (nI k) S = (if (trj Z (Z 5 g) d (dwf st h) h q n).2.2.1 ≤ SX 24 g then r (nI g) (nI n) tn lk (st + 1) S' else r (nI g) (nI n) tn (lk + wtR st tn n) (st + 1) S') ∧ oSame xWk SX S' from L n 0 5000 S (by omega) (by omega) W s
  intro m
  induction m with
  | zero =>
    intro k fuel S h1 h2 W s
    obtain ⟨f, rfl⟩ : ∃ f, fuel = f + 1 := ⟨fuel - 1, by omega⟩
    have : k = n := by omega
    subst this
    refine ⟨S, ?_, s⟩
    show fX11_drought_b57 5000 r _ (nI g) (nI k) tn lk st _ (nI k) S = _
    unfold fX11_drought_b57
    rw [if_pos (nI_le (Nat.le_refl _) (by omega))]
    unfold fX11_drought_b119
    rw [chk_t (inb_t hg (by decide)), nI_clamp (by omega), W.2.2.2.1, s 24 g rfl]
    rfl
  | succ m ih =>
    intro k fuel S h1 h2 W s
    obtain ⟨f, rfl⟩ : ∃ f, fuel = f + 1 := ⟨fuel - 1, by omega⟩
    have hT : tXz (xtw SX) Z S := hx.on xtw_cases s
    obtain ⟨S2, r1, r2, r3⟩ := x_passHour (N := 5000) (we := dwf st h (h + k)) xtw_cases Zk hT (trj_ok hq he k) he W (by decide)
    rw [nI_1] at r2
    obtain ⟨S', e1, e2⟩ := ih (k + 1) f S2 (by omega) (by omega) r2 (s.tr r3)
    refine ⟨S', ?_, e2⟩
    rw [← e1]
    show fX11_drought_b57 5000 r (fX11_drought_h57 5000 r f) (nI g) (nI n) tn lk st _ (nI k) S = fX11_drought_h57 5000 r f (nI g) (nI n) tn lk st (wtR st tn k * (if bt st (nI k) = true then tn else 10 - tn)) (nI (k + 1)) S2
    have ed : dwf st h (h + k) = if bt st (nI k) = true then 0 else 9 := by
      unfold dwf
      rw [show h + k - h = k by omega]
    rw [ed] at r1
    unfold fX11_drought_b57
    rw [if_neg (nI_ge (by omega) (by omega))]
    unfold fX11_drought_b63
    rw [bnd_t x_isOneOf]
    cases hb : bt st (nI k) with
    | false =>
      rw [hb, if_neg (by decide)] at r1
      show fX11_drought_b109 5000 r (fX11_drought_h57 5000 r f) (nI g) (nI n) tn lk st (wtR st tn k * (10 - tn)) (nI k) (xtw S) 9 S = _
      unfold fX11_drought_b109
      rw [xWk.tw s, bnd_t r1, nI_1]
      rfl
    | true =>
      rw [hb, if_pos rfl] at r1
      show fX11_drought_b109 5000 r (fX11_drought_h57 5000 r f) (nI g) (nI n) tn lk st (wtR st tn k * tn) (nI k) (xtw S) 0 S = _
      unfold fX11_drought_b109
      rw [xWk.tw s, bnd_t r1, nI_1]
      rfl
def mSam1 (S S' : gS) : Prop := ∀ i j, mScr i j = false → ¬ (i = 99 ∧ j = 41) → S' i j = S i j
theorem mSit.on1 {Z S S' : gS} {h : Nat} {d : Int32} {e : Nat → Int32} {qs : Nat → qT} (M : mSit Z S h d e qs) (s : mSam1 S S') : mSit Z S' h d e qs := by
  obtain ⟨m1, m2, m3, m4, m5⟩ := M
  refine ⟨m1.on (fun i j h1 h2 => s i j ?_ (by omega)), fun g hg => by rw [s 18 g rfl (by omega)]; exact m2 g hg, by rw [s 99 37 rfl (by omega)]; exact m3, by rw [s 99 38 rfl (by omega)]; exact m4, fun g hg => ?_⟩
  · rcases (show i = 5 ∨ i = 6 ∨ i = 7 ∨ i = 8 ∨ i = 9 ∨ i = 10 ∨ i = 11 ∨ i = 12 ∨ i = 13 ∨ i = 14 ∨ i = 15 ∨ i = 16 by omega) with rfl | rfl | rfl | rfl | rfl | rfl | rfl | rfl | rfl | rfl | rfl | rfl <;> rfl
  · rw [s 32 g rfl (by omega), s 33 g rfl (by omega), s 34 g rfl (by omega), s 35 g rfl (by omega)]
    exact m5 g hg
theorem mSit.up41 {Z S : gS} {h : Nat} {d x : Int32} {e : Nat → Int32} {qs : Nat → qT} (M : mSit Z S h d e qs) : mSit Z (sU S 99 41 x) h d e qs := M.on1 (fun i j _ h => sU_n h)
/-- what the HOURS under a told WET change -/
def mD (i j : Nat) : Bool := mHo i j || (i == 99 && j == 41)
theorem mD_ho {S S' : gS} (s : oSame mHo S S') : oSame mD S S' := fun i j h => s i j (by
  unfold mD at h
  rw [Bool.or_eq_false_iff] at h
  exact h.1)
theorem mD_back {S1 S S4 : gS} (s : mSam1 S1 S) {S' : gS} (sd : oSame mD S S') (u : ∀ i j, S4 i j = if mPk i j = true then S1 i j else S' i j) : mSam1 S1 S4 := by
  intro i j h1 h2
  rw [u i j]
  by_cases hp : mPk i j = true
  · rw [if_pos hp]
  · rw [if_neg hp]
    have hd : mD i j = false := by
      cases hh : mD i j with
      | false => rfl
      | true =>
        exfalso
        unfold mD at hh
        rw [Bool.or_eq_true] at hh
        rcases hh with hh | hh
        · have h3 := fun q => hp (mPk_t.mpr q)
          unfold mHo at hh
          simp only [Bool.or_eq_true, Bool.and_eq_true, beq_iff_eq, decide_eq_true_iff] at hh
          rcases hh with ((rfl | rfl) | h4) | ⟨rfl, (rfl | rfl) | rfl⟩
          · cases h1
          · cases h1
          · exact h3 (Or.inl ⟨h4.1.1, h4.1.2, h4.2⟩)
          · exact h3 (Or.inr ⟨rfl, Or.inl rfl⟩)
          · cases h1
          · cases h1
        · rw [Bool.and_eq_true, beq_iff_eq, beq_iff_eq] at hh
          exact h2 hh
    rw [sd i j hd, s i j h1 h2]
theorem m_drought_h {Z S : gS} {h n g : Nat} {d st tn lk x5 : Int32} {e : Nat → Int32} {qs : Nat → qT} {r : Int32 → Int32 → Int32 → Int32 → Int32 → Int32 → gS → Option (Int32 × gS)} (Zk : tOK Z) (K : qsH Z qs) (h9 : h ≤ 999) (hn : n ≤ 5) (hg : g < tn1 Z) (M : mSit Z S h d e qs) : ∃ S', fX12_drought_h86 5000 r 5000 (nI g) (nI n) tn lk x5 st 1 0 S = bnd (fX12_unpack 5000 46 0 S') (fun q1 => r (nI g) (nI n) tn (if (trj Z (e g) d (dwf st h) h (qs g) n).2.2.1 ≤ x5 then lk else lk + wtR st tn n) x5 (st + 1) q1.2) ∧ oSame mD S S' := by
  have z6 := Zk.2.1.2
  suffices L : ∀ (m k fuel : Nat) (S1 : gS), k + m = n → m < fuel → mSit Z S1 (h + k) d e (fun g => trj Z (e g) d (dwf st h) h (qs g) k) → oSame mD S S1 → ∃ S', fX12_drought_h86 5000 r fuel (nI g) (nI n) tn lk x5 st (wtR st tn k) (nI k) S1 = bnd (fX12_unpack 5000 46 0 S') (fun q1 => r (nI g) (nI n) tn (if (trj Z (e g) d (dwf st h) h (qs g) n).2.2.1 ≤ x5 then lk else lk + wtR st tn n) x5 (st + 1) q1.2) ∧ oSame mD S S' from L n 0 5000 S (by omega) (by omega) M oSame.rf
  intro m
  induction m with
  | zero =>
    intro k fuel S1 h1 h2 M1 s
    obtain ⟨f, rfl⟩ : ∃ f, fuel = f + 1 := ⟨fuel - 1, by omega⟩
    have : k = n := by omega
    subst this
    refine ⟨S1, ?_, s⟩
    show fX12_drought_b86 5000 r _ (nI g) (nI k) tn lk x5 st _ (nI k) S1 = _
    unfold fX12_drought_b86
    rw [if_pos (nI_le (Nat.le_refl _) (by omega))]
    unfold fX12_drought_b145
    rw [chk_t (inb_t (by omega) (by decide)), nI_clamp (by omega), (M1.2.2.2.2 g hg).2.2.1]
    by_cases hl : (trj Z (e g) d (dwf st h) h (qs g) k).2.2.1 ≤ x5
    · rw [if_pos hl, if_pos hl]
      unfold fX12_drought_b163 fX12_drought_b164
      rw [Int32.add_zero]
    · rw [if_neg hl, if_neg hl]
      rfl
  | succ m ih =>
    intro k fuel S1 h1 h2 M1 s
    obtain ⟨f, rfl⟩ : ∃ f, fuel = f + 1 := ⟨fuel - 1, by omega⟩
    have ed : dwf st h (h + k) = if bt st (nI k) = true then 0 else 9 := by
      unfold dwf
      rw [show h + k - h = k by omega]
    have hw : ¬ dwf st h (h + k) = -1 ∧ 0 ≤ dwf st h (h + k) := by
      rw [ed]
      cases bt st (nI k) <;> decide
    obtain ⟨S2, r1, r2, -, r4⟩ := m_step (N := 5000) (we := dwf st h (h + k)) Zk (K.tr (wf := dwf st h) (h := h) (d := d) (e := e) k) (by omega) (by decide) (M1.up41 (x := dwf st h (h + k))) (Or.inl ⟨sU_s, hw.1⟩) hw.2
    have s2 : oSame mD S S2 := (s.up rfl).tr (mD_ho r4)
    obtain ⟨S', e1, e2⟩ := ih (k + 1) f S2 (by omega) (by omega) r2 s2
    refine ⟨S', ?_, e2⟩
    rw [← e1]
    show fX12_drought_b86 5000 r (fX12_drought_h86 5000 r f) (nI g) (nI n) tn lk x5 st _ (nI k) S1 = fX12_drought_h86 5000 r f (nI g) (nI n) tn lk x5 st (wtR st tn k * (if bt st (nI k) = true then tn else 10 - tn)) (nI (k + 1)) S2
    rw [ed] at r1
    unfold fX12_drought_b86
    rw [if_neg (nI_ge (by omega) (by omega))]
    unfold fX12_drought_b92
    rw [bnd_t m_isOf]
    cases hb : bt st (nI k) with
    | false =>
      rw [hb, if_neg (by decide)] at r1
      show fX12_drought_b109 5000 r (fX12_drought_h86 5000 r f) (nI g) (nI n) tn lk x5 st (wtR st tn k) (nI k) 9 S1 = _
      unfold fX12_drought_b109
      dsimp only [lt]
      rw [bnd_t m_isOf, hb]
      show fX12_drought_b132 5000 r (fX12_drought_h86 5000 r f) (nI g) (nI n) tn lk x5 st (nI k) (wtR st tn k) (10 - tn) (sU S1 99 41 9) = _
      unfold fX12_drought_b132
      rw [bnd_t r1, nI_1]
      rfl
    | true =>
      rw [hb, if_pos rfl] at r1
      show fX12_drought_b109 5000 r (fX12_drought_h86 5000 r f) (nI g) (nI n) tn lk x5 st (wtR st tn k) (nI k) 0 S1 = _
      unfold fX12_drought_b109
      dsimp only [lt]
      rw [bnd_t m_isOf, hb]
      show fX12_drought_b132 5000 r (fX12_drought_h86 5000 r f) (nI g) (nI n) tn lk x5 st (nI k) (wtR st tn k) tn (sU S1 99 41 0) = _
      unfold fX12_drought_b132
      rw [bnd_t r1, nI_1]
      rfl
theorem shl_pow : ∀ n, n < 31 → (1 : Int32) <<< (nI n &&& 31) = nI (2 ^ n) := by decide +kernel
theorem st_drought : Lw_drought JJ := by
  intro SX SM x1 x2 x3 hJ
  obtain ⟨S1, Z, h, qs, hS1, c0, hJ1, Zk, h9, C, M, K, w41, x0, x5⟩ := pre hJ
  have z6 := Zk.2.1.2
  have hF : fX12_drought 5000 x1 x2 x3 SM = if iv (inb x1 (tn1 Z)) = 0 then fX12_drought_b13 5000 S1 else fX12_drought_b19 5000 x1 x2 x3 S1 := by
    unfold fX12_drought fX12_drought_b0
    dsimp only [lt]
    rw [← hS1, bnd_t (m_isGuild M.1.2.1 (by omega))]
  have hG : fX12_drought_b19 5000 x1 x2 x3 S1 = if iv (wth x2 1 5) = 0 then fX12_drought_b43 5000 S1 else if iv (wth x3 0 10) = 0 then fX12_drought_b43 5000 S1 else fX12_drought_b49 5000 x1 x2 x3 S1 := by
    unfold fX12_drought_b19
    rw [bnd_t in_1_5]
    unfold fX12_drought_b31
    rw [bnd_t in_0_10]
  cases h1 : inb x1 (tn1 Z) with
  | false =>
    refine stFl 5000 5000 1 hJ one_ne (Or.inr (Or.inl rfl)) (ngF x5 (by omega) h1) ?_
    show fX12_drought 5000 x1 x2 x3 SM = _
    rw [hF, h1, ← hS1]
    rfl
  | true =>
  cases h2 : wth x2 1 5 with
  | false =>
    refine stFl 5000 5000 2 hJ two_ne (Or.inr (Or.inr rfl)) ((ngT x5 (by omega) h1).trans (niF h2)) ?_
    show fX12_drought 5000 x1 x2 x3 SM = _
    rw [hF, h1, ← hS1]
    show fX12_drought_b19 5000 x1 x2 x3 S1 = _
    rw [hG, h2]
    rfl
  | true =>
  cases h3 : wth x3 0 10 with
  | false =>
    refine stFl 5000 5000 2 hJ two_ne (Or.inr (Or.inr rfl)) (((ngT x5 (by omega) h1).trans (niT h2)).trans (niF h3)) ?_
    show fX12_drought 5000 x1 x2 x3 SM = _
    rw [hF, h1, ← hS1]
    show fX12_drought_b19 5000 x1 x2 x3 S1 = _
    rw [hG, h2, h3]
    rfl
  | true =>
  obtain ⟨g, hg, rfl⟩ := inb_of h1 (by omega)
  obtain ⟨n, n1, n2, rfl⟩ := wth_of (a := 1) (b := 5) (by decide) (by decide) h2
  have hgc : (nI g).toNatClampNeg = g := nI_clamp (by omega)
  have hin : inb (nI g) 6 = true := inb_t (by omega) (by decide)
  obtain ⟨S2, k1, k2, k3⟩ := q_pk (N := 5000) (S1 := S1) (nd := 46) (Or.inl rfl) (by decide)
  have hX : fX11_drought 5000 (nI g) (nI n) x3 SX = fX11_drought_h24 5000 5000 (nI g) (nI n) x3 0 0 SX := ((ngT x5 (by omega) h1).trans (niT h2)).trans (niT h3)
  have hM : fX12_drought 5000 (nI g) (nI n) x3 SM = fX12_drought_h72 5000 5000 (nI g) (nI n) x3 0 (qs g).2.2.1 0 S2 := by
    rw [hF, h1]
    show fX12_drought_b19 5000 (nI g) (nI n) x3 S1 = _
    rw [hG, h2, h3]
    show fX12_drought_b49 5000 (nI g) (nI n) x3 S1 = _
    unfold fX12_drought_b49
    rw [chk_t hin, bnd_t k1, hgc, (M.2.2.2.2 g hg).2.2.1]
  have p32 : 2 ^ n ≤ 32 := by
    rcases (show n = 1 ∨ n = 2 ∨ n = 3 ∨ n = 4 ∨ n = 5 by omega) with rfl | rfl | rfl | rfl | rfl <;> decide
  have hsh := shl_pow n (by omega)
  obtain ⟨rx, rm, a1, a2, a3⟩ := loop2 (A := Int32 × gS) (B := Int32 × gS) (fun f b a => fX11_drought_h24 5000 f (nI g) (nI n) x3 a.1 (nI b) a.2) (fun f b a => fX12_drought_h72 5000 f (nI g) (nI n) x3 a.1 (qs g).2.2.1 (nI b) a.2) (fun _ a b => a.1 = b.1 ∧ oSame xWk SX a.2 ∧ mSam1 S1 b.2 ∧ b.2 99 4 = 0 ∧ ∀ j, b.2 46 j = S2 46 j) (fun r r' => r.1 = 0 ∧ r.2.1 = r'.1 ∧ xSame SX r.2.2 ∧ mSame S1 r'.2 ∧ r'.2 99 4 = 0) (2 ^ n) (by
      rintro f f' ⟨v, S⟩ ⟨v', S'⟩ ⟨i1, i2, i3, i4, i5⟩
      dsimp only at i1 i2 i3 i4 i5
      subst i1
      refine ⟨(0, v, S), (v, sU S' 99 41 (-1)), ?_, ?_, rfl, rfl, xWk.same i2, fun i j hij => ?_, ?_⟩
      · show fX11_drought_b24 5000 _ (nI g) (nI n) x3 v (nI (2 ^ n)) S = _
        unfold fX11_drought_b24
        rw [hsh, if_pos (nI_le (Nat.le_refl _) (by omega))]
        rfl
      · show fX12_drought_b72 5000 _ (nI g) (nI n) x3 v _ (nI (2 ^ n)) S' = _
        unfold fX12_drought_b72
        rw [hsh, if_pos (nI_le (Nat.le_refl _) (by omega))]
        rfl
      · dsimp only
        by_cases h41 : i = 99 ∧ j = 41
        · rw [h41.1, h41.2, sU_s]; exact w41.symm
        · rw [sU_n h41]; exact i3 i j hij h41
      · dsimp only
        rw [sU_n (by omega)]; exact i4) (by
      rintro f f' b ⟨v, S⟩ ⟨v', S'⟩ hb ⟨i1, i2, i3, i4, i5⟩
      dsimp only at i1 i2 i3 i4 i5
      subst i1
      have C' := C.on (Or.inl rfl) i2
      obtain ⟨X1, b1, b2, b3⟩ := x_begin (N := 5000) (Or.inl rfl) Zk C' hg (by omega)
      obtain ⟨X2, c1, c2⟩ := x_drought_h (n := n) (tn := x3) (lk := v) (st := nI b) (r := fX11_drought_h24 5000 f) Zk C.1 h9 n2 (by omega) (K.1 g hg) (K.2.2 g hg) b2 (i2.tr b3)
      have c24 : SX 24 g = (qs g).2.2.1 := (C.2.2.2 g hg).2.2.1
      obtain ⟨M2, d1, d2⟩ := m_drought_h (n := n) (tn := x3) (lk := v) (x5 := (qs g).2.2.1) (st := nI b) (r := fX12_drought_h72 5000 f') Zk K.h h9 n2 hg (M.on1 i3)
      obtain ⟨M4, u1, u2⟩ := k3 M2 (fun j => (d2 46 j rfl).trans (i5 j))
      refine ⟨(if (trj Z (Z 5 g) (SX 21 1) (dwf (nI b) h) h (qs g) n).2.2.1 ≤ (qs g).2.2.1 then v else v + wtR (nI b) x3 n, X2), (if (trj Z (Z 5 g) (SX 21 1) (dwf (nI b) h) h (qs g) n).2.2.1 ≤ (qs g).2.2.1 then v else v + wtR (nI b) x3 n, M4), ⟨rfl, c2, mD_back i3 d2 u2, ?_, fun j => ?_⟩, ?_, ?_⟩
      · show M4 99 4 = 0
        rw [u2 99 4]
        exact (d2 99 4 rfl).trans i4
      · show M4 46 j = S2 46 j
        rw [u2 46 j]
        exact (d2 46 j rfl).trans (i5 j)
      · show fX11_drought_b24 5000 (fX11_drought_h24 5000 f) (nI g) (nI n) x3 v (nI b) S = _
        unfold fX11_drought_b24
        rw [hsh, if_neg (nI_ge hb (by omega))]
        unfold fX11_drought_b32
        dsimp only [lt]
        rw [bnd_t b1]
        dsimp only
        rw [c1, c24, nI_1]
        by_cases hl : (trj Z (Z 5 g) (SX 21 1) (dwf (nI b) h) h (qs g) n).2.2.1 ≤ (qs g).2.2.1
        · rw [if_pos hl, if_pos hl]
        · rw [if_neg hl, if_neg hl]
      · show fX12_drought_b72 5000 (fX12_drought_h72 5000 f') (nI g) (nI n) x3 v _ (nI b) S' = _
        unfold fX12_drought_b72
        rw [hsh, if_neg (nI_ge hb (by omega))]
        unfold fX12_drought_b80
        rw [d1, bnd_t u1, nI_1]) (2 ^ n) 0 (0, SX) (0, S2) 5000 5000 (by omega) ⟨rfl, oSame.rf, fun i j h1 h2 => k2 i j (fun q => by rw [q] at h1; cases h1), by dsimp only; rw [k2 99 4 (by omega)]; exact c0, fun _ => rfl⟩ (by omega) (by omega)
  refine stSu 5000 5000 rm.1 hJ rfl (Or.inl rfl) ⟨rx, ?_, a3.1, a3.2.1, a3.2.2.1⟩ ⟨rm, ?_, rfl, by rw [← hS1]; exact a3.2.2.2.1, a3.2.2.2.2⟩
  · show fX11_drought 5000 (nI g) (nI n) x3 SX = _
    rw [hX]
    exact a1
  · show fX12_drought 5000 (nI g) (nI n) x3 SM = _
    rw [hM]
    exact a2
