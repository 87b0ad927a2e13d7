/-! the reference's game -/
theorem qsH.up {Z : gS} {g : Nat} {qs : Nat → qT} {q : qT} (K : qsH Z qs) (hg : g < tn1 Z) (e : q.2.2.2 = (qs g).2.2.2) : qsH Z (upq qs g q) := by
  obtain ⟨k1, k2⟩ := K
  have key : ∀ g', (upq qs g q g').2.2.2 = (qs g').2.2.2 := by
    intro g'
    by_cases hh : g' = g
    · rw [hh, upq_s]; exact e
    · rw [upq_n hh]
  refine ⟨fun g' hg' => ?_, fun x y hx hy => ?_⟩
  · unfold hOK
    rw [key g']
    exact k1 g' hg'
  · rw [key x, key y]
    exact k2 x y hx hy
noncomputable def qsC (qs : Nat → qT) (a b x y : Nat) : Nat → qT := fun g => if g = a then chq x (qs a) else if g = b then chq y (qs b) else qs g
section
variable {Z S1 S2 : gS} {h a b : Nat} {d : Int32} {e : Nat → Int32} {qs : Nat → qT}
theorem m_qsC {S : gS} {x y : Nat} {r : Int32 → Int32 → Int32 → gS → Option (Int32 × gS)} (Zk : tOK Z) (K : qsH Z qs) (ha : a < tn1 Z) (hb : b < tn1 Z) (hab : a ≠ b) (hx : x ≤ 1) (hy : y ≤ 1) (M : mSit Z S h d e qs) : ∃ S', fX12_tellGains_b16 5000 r (nI a) (nI b) (nI (2 * x + y)) S = fX12_tellGains_b40 5000 r (nI a) (nI b) (nI (2 * x + y)) S' ∧ mSit Z S' h d e (qsC qs a b x y) ∧ qsH Z (qsC qs a b x y) ∧ oSame mHo S S' := by
  have z6 := Zk.2.1.2
  have e2 : nI (2 * x + y) / 2 = nI x := by rw [show (2 : Int32) = nI 2 from rfl, pk_div (by omega) (by decide) (by decide), show (2 * x + y) / 2 = x by omega]
  have em : nI (2 * x + y) - nI (2 * x + y) / 2 * 2 = nI y := by rw [show (2 : Int32) = nI 2 from rfl, pk_rem (by omega) (by decide) (by decide), show (2 * x + y) % 2 = y by omega]
  have st1 : ∃ A, fX12_tellGains_b16 5000 r (nI a) (nI b) (nI (2 * x + y)) S = fX12_tellGains_b28 5000 r (nI a) (nI b) (nI (2 * x + y)) A ∧ mSit Z A h d e (upq qs a (chq x (qs a))) ∧ oSame mHo S A := by
    unfold fX12_tellGains_b16
    rw [e2]
    rcases (show x = 0 ∨ x = 1 by omega) with rfl | rfl
    · refine ⟨S, rfl, ?_, oSame.rf⟩
      have : upq qs a (chq 0 (qs a)) = qs := by
        funext g
        by_cases hh : g = a
        · rw [hh, upq_s]; rfl
        · rw [upq_n hh]
      rw [this]
      exact M
    · obtain ⟨A, a1, a2, a3⟩ := m_doConfess (N := 5000) Zk M ha
      refine ⟨A, ?_, a2, mHo_of (g := a) (by omega) (fun i j hij => a3 i j (by omega))⟩
      show fX12_tellGains_b23 5000 r (nI a) (nI b) _ S = _
      unfold fX12_tellGains_b23
      rw [bnd_t a1]
  obtain ⟨A, a1, a2, a3⟩ := st1
  have hK1 : qsH Z (upq qs a (chq x (qs a))) := K.up ha (by
    unfold chq
    by_cases h1 : x = 1
    · rw [if_pos h1]; rfl
    · rw [if_neg h1])
  have eb : upq qs a (chq x (qs a)) b = qs b := upq_n (Ne.symm hab)
  have eC : upq (upq qs a (chq x (qs a))) b (chq y (qs b)) = qsC qs a b x y := by
    funext g
    unfold qsC
    by_cases h1 : g = a
    · rw [if_pos h1, h1, upq_n hab, upq_s]
    · rw [if_neg h1]
      by_cases h2 : g = b
      · rw [if_pos h2, h2, upq_s]
      · rw [if_neg h2, upq_n h2, upq_n h1]
  have hK2 : qsH Z (qsC qs a b x y) := by
    rw [← eC]
    refine hK1.up hb ?_
    rw [eb]
    unfold chq
    by_cases h1 : y = 1
    · rw [if_pos h1]; rfl
    · rw [if_neg h1]
  rw [a1]
  unfold fX12_tellGains_b28
  rw [em]
  rcases (show y = 0 ∨ y = 1 by omega) with rfl | rfl
  · refine ⟨A, rfl, ?_, hK2, a3⟩
    rw [← eC]
    have : upq (upq qs a (chq x (qs a))) b (chq 0 (qs b)) = upq qs a (chq x (qs a)) := by
      funext g
      by_cases hh : g = b
      · rw [hh, upq_s, eb]; rfl
      · rw [upq_n hh]
    rw [this]
    exact a2
  · obtain ⟨B, b1, b2, b3⟩ := m_doConfess (N := 5000) Zk a2 hb
    refine ⟨B, ?_, ?_, hK2, a3.tr (mHo_of (g := b) (by omega) (fun i j hij => b3 i j (by omega)))⟩
    · show fX12_tellGains_b35 5000 r (nI a) (nI b) _ A = _
      unfold fX12_tellGains_b35
      rw [bnd_t b1]
    · rw [← eC]
      rw [eb] at b2
      exact b2
noncomputable def quW (Z : gS) (d : Int32) (e : Nat → Int32) (h : Nat) (qs : Nat → qT) (g : Nat) (c : Nat) : Int32 := quV Z (e g) d h (chq c (qs g))
theorem cntB_s {c : Nat → Bool} {k : Nat} : nI (cntB c (k + 1)) = nI (cntB c k) + (if c k = true then 1 else 0) := by
  show nI (cntB c k + if c k = true then 1 else 0) = _
  by_cases h : c k = true
  · rw [if_pos h, if_pos h, nI_1]
  · rw [if_neg h, if_neg h, Int32.add_zero]; rfl
/-- a WEEK, and what is gained in it -/
theorem m_week {S : gS} {x y : Nat} {r : Int32 → Int32 → Int32 → gS → Option (Int32 × gS)} (Zk : tOK Z) (ha : a < tn1 Z) (hb : b < tn1 Z) (hab : a ≠ b) (h9 : h ≤ 999) (hx : x ≤ 1) (hy : y ≤ 1) (M : mSit Z S h d e (qsC qs a b x y)) (K : qsH Z (qsC qs a b x y)) (w41 : S 99 41 = -1) : ∃ S', fX12_tellGains_b40 5000 r (nI a) (nI b) (nI (2 * x + y)) S = bnd (fX12_unpack 5000 46 0 (sU (sU S' 55 (2 * (2 * x + y)) (gnV (quW Z d e h qs a) (quW Z d e h qs b) x y)) 55 (2 * (2 * x + y) + 1) (gnV (quW Z d e h qs b) (quW Z d e h qs a) y x))) (fun q1 => r (nI a) (nI b) (nI (2 * x + y + 1)) q1.2) ∧ oSame mHo S S' := by
  have z6 := Zk.2.1.2
  have ea : qsC qs a b x y a = chq x (qs a) := if_pos rfl
  have ebb : qsC qs a b x y b = chq y (qs b) := by
    unfold qsC
    rw [if_neg (Ne.symm hab), if_pos rfl]
  suffices L : ∀ (m k fuel : Nat) (S1 : gS), k + m = 8 → m < fuel → mSit Z S1 (h + k) d e (fun g => trj Z (e g) d (wetZ Z) h (qsC qs a b x y g) k) → oSame mHo S S1 → ∃ S', fX12_tellGains_h49 5000 r fuel (nI a) (nI b) (nI (2 * x + y)) (nI (cntB (fun k => !trB Z (e a) d (wetZ Z) h (chq x (qs a)) k) k)) (nI (cntB (fun k => !trB Z (e b) d (wetZ Z) h (chq y (qs b)) k) k)) (nI k) S1 = bnd (fX12_unpack 5000 46 0 (sU (sU S' 55 (2 * (2 * x + y)) (gnV (quW Z d e h qs a) (quW Z d e h qs b) x y)) 55 (2 * (2 * x + y) + 1) (gnV (quW Z d e h qs b) (quW Z d e h qs a) y x))) (fun q1 => r (nI a) (nI b) (nI (2 * x + y + 1)) q1.2) ∧ oSame mHo S S' from L 8 0 5000 S (by omega) (by omega) M oSame.rf
  intro m
  induction m with
  | zero =>
    intro k fuel S1 h1 h2 M1 s
    obtain ⟨f, rfl⟩ : ∃ f, fuel = f + 1 := ⟨fuel - 1, by omega⟩
    have : k = 8 := by omega
    subst this
    refine ⟨S1, ?_, s⟩
    show fX12_tellGains_b108 5000 r (nI a) (nI b) (nI (2 * x + y)) (quW Z d e h qs a x) (quW Z d e h qs b y) S1 = _
    unfold fX12_tellGains_b108
    have e2 : nI (2 * x + y) / 2 = nI x := by rw [show (2 : Int32) = nI 2 from rfl, pk_div (by omega) (by decide) (by decide), show (2 * x + y) / 2 = x by omega]
    have em : nI (2 * x + y) - nI (2 * x + y) / 2 * 2 = nI y := by rw [show (2 : Int32) = nI 2 from rfl, pk_rem (by omega) (by decide) (by decide), show (2 * x + y) % 2 = y by omega]
    have e4 : (2 : Int32) * nI (2 * x + y) = nI (2 * (2 * x + y)) := by rw [show (2 : Int32) = nI 2 from rfl, pk_mul]
    dsimp only [lt]
    rw [em, e2, e4, nI_1, nI_1, chk_t (inb_t (by omega) (by decide)), chk_t (inb_t (by omega) (by decide)), nI_clamp (n := 2 * (2 * x + y)) (by omega), nI_clamp (n := 2 * (2 * x + y) + 1) (by omega)]
    unfold gnV
    rw [sub_sw (5 * quW Z d e h qs a x), sub_sw (5 * quW Z d e h qs b y)]
  | succ m ih =>
    intro k fuel S1 h1 h2 M1 s
    obtain ⟨f, rfl⟩ : ∃ f, fuel = f + 1 := ⟨fuel - 1, by omega⟩
    obtain ⟨S2, r1, r2, r3, r4⟩ := m_step1 (N := 5000) Zk (K.tr (wf := wetZ Z) (h := h) (d := d) (e := e) k) (by omega) (by decide) M1 (by rw [s 99 41 rfl]; exact w41)
    obtain ⟨S', e1, e2⟩ := ih (k + 1) f S2 (by omega) (by omega) r2 (s.tr r4)
    refine ⟨S', ?_, e2⟩
    rw [← e1]
    have ba : bt (S2 99 45) (nI a) = trB Z (e a) d (wetZ Z) h (chq x (qs a)) k := by
      rw [r3, silent_bt z6 ha, ea]
      rfl
    have bb' : bt (S2 99 45) (nI b) = trB Z (e b) d (wetZ Z) h (chq y (qs b)) k := by
      rw [r3, silent_bt z6 hb, ebb]
      rfl
    show fX12_tellGains_b49 5000 r (fX12_tellGains_h49 5000 r f) (nI a) (nI b) (nI (2 * x + y)) _ _ (nI k) S1 = _
    unfold fX12_tellGains_b49
    rw [if_neg (show ¬ (8 : Int32) ≤ nI k from nI_ge (b := 8) (by omega) (by decide))]
    unfold fX12_tellGains_b56
    rw [bnd_t r1]
    dsimp only
    rw [bnd_t m_isOf, ba, cntB_s, cntB_s]
    cases trB Z (e a) d (wetZ Z) h (chq x (qs a)) k with
    | false =>
      show fX12_tellGains_b78 5000 r (fX12_tellGains_h49 5000 r f) (nI a) (nI b) (nI (2 * x + y)) _ (nI k) _ 1 S2 = _
      unfold fX12_tellGains_b78
      rw [bnd_t m_isOf, bb']
      cases trB Z (e b) d (wetZ Z) h (chq y (qs b)) k with
      | false =>
        show fX12_tellGains_h49 5000 r f (nI a) (nI b) (nI (2 * x + y)) _ _ (nI k + 1) S2 = _
        rw [nI_1 k]
        rfl
      | true =>
        show fX12_tellGains_h49 5000 r f (nI a) (nI b) (nI (2 * x + y)) _ _ (nI k + 1) S2 = _
        rw [nI_1 k]
        rfl
    | true =>
      show fX12_tellGains_b78 5000 r (fX12_tellGains_h49 5000 r f) (nI a) (nI b) (nI (2 * x + y)) _ (nI k) _ 0 S2 = _
      unfold fX12_tellGains_b78
      rw [bnd_t m_isOf, bb']
      cases trB Z (e b) d (wetZ Z) h (chq y (qs b)) k with
      | false =>
        show fX12_tellGains_h49 5000 r f (nI a) (nI b) (nI (2 * x + y)) _ _ (nI k + 1) S2 = _
        rw [nI_1 k]
        rfl
      | true =>
        show fX12_tellGains_h49 5000 r f (nI a) (nI b) (nI (2 * x + y)) _ _ (nI k + 1) S2 = _
        rw [nI_1 k]
        rfl
theorem m_tellGains (Zk : tOK Z) (K : qsH Z qs) (ha : a < tn1 Z) (hb : b < tn1 Z) (hab : a ≠ b) (h9 : h ≤ 999) (M : mSit Z S1 h d e qs) (w41 : S1 99 41 = -1) (c0 : S1 99 4 = 0) : ∃ S', fX12_tellGains 5000 (nI a) (nI b) S1 = some (0, S') ∧ mSame S1 S' ∧ S' 99 4 = 0 ∧ ∀ x y, x ≤ 1 → y ≤ 1 → S' 55 (2 * (2 * x + y)) = gnV (quW Z d e h qs a) (quW Z d e h qs b) x y ∧ S' 55 (2 * (2 * x + y) + 1) = gnV (quW Z d e h qs b) (quW Z d e h qs a) y x := by
  obtain ⟨S2, k1, k2, k3, k5, k7, k6, k4⟩ := q_go M w41 c0
  have main : Gv (fX12_tellGains_h11 5000 5000 (nI a) (nI b) 0 S2) (fun r => r.1 = 0 ∧ mSame S1 r.2 ∧ r.2 99 4 = 0 ∧ ∀ x y, x ≤ 1 → y ≤ 1 → r.2 55 (2 * (2 * x + y)) = gnV (quW Z d e h qs a) (quW Z d e h qs b) x y ∧ r.2 55 (2 * (2 * x + y) + 1) = gnV (quW Z d e h qs b) (quW Z d e h qs a) y x) := by
    refine loopG (A := gS) (fun f c S => fX12_tellGains_h11 5000 f (nI a) (nI b) (nI c) S) (fun c S => mSame S1 S ∧ S 99 4 = 0 ∧ (∀ j, S 46 j = S2 46 j) ∧ ∀ x y, x ≤ 1 → y ≤ 1 → 2 * x + y < c → S 55 (2 * (2 * x + y)) = gnV (quW Z d e h qs a) (quW Z d e h qs b) x y ∧ S 55 (2 * (2 * x + y) + 1) = gnV (quW Z d e h qs b) (quW Z d e h qs a) y x) _ 4 ?_ ?_ 4 0 S2 5000 (by omega) ⟨k5, k7, fun _ => rfl, fun x y _ _ h => by omega⟩ (by omega)
    · rintro f S ⟨i1, i2, i3, i4⟩
      exact ⟨(0, S), rfl, rfl, i1, i2, fun x y hx hy => i4 x y hx hy (by omega)⟩
    · rintro f c S hc ⟨i1, i2, i3, i4⟩
      refine Or.inr ?_
      obtain ⟨x, y, hx, hy, rfl⟩ : ∃ x y, x ≤ 1 ∧ y ≤ 1 ∧ c = 2 * x + y := ⟨c / 2, c % 2, by omega, by omega, by omega⟩
      have M' := M.on i1
      obtain ⟨A, a1, a2, a3, a4⟩ := m_qsC (x := x) (y := y) (r := fX12_tellGains_h11 5000 f) Zk K ha hb hab hx hy M'
      obtain ⟨B, b1, b2⟩ := m_week (x := x) (y := y) (r := fX12_tellGains_h11 5000 f) Zk ha hb hab h9 hx hy a2 a3 (by rw [a4 99 41 rfl, i1 99 41 rfl]; exact w41)
      obtain ⟨G, hG⟩ : ∃ z, z = sU (sU B 55 (2 * (2 * x + y)) (gnV (quW Z d e h qs a) (quW Z d e h qs b) x y)) 55 (2 * (2 * x + y) + 1) (gnV (quW Z d e h qs b) (quW Z d e h qs a) y x) := ⟨_, rfl⟩
      have g1 : ∀ i j, ¬ (i = 55 ∧ (j = 2 * (2 * x + y) ∨ j = 2 * (2 * x + y) + 1)) → G i j = B i j := fun i j hij => by rw [hG, sU_n (by omega), sU_n (by omega)]
      have sB : oSame mHo S B := a4.tr b2
      have sG : oSame mQ S1 G := fun i j hij => by
        rw [g1 i j (fun q => by rw [q.1] at hij; cases hij)]
        exact (i1.q.tr sB.q) i j hij
      obtain ⟨S4, u1, u2, u3, u4⟩ := k6 G (fun j => by rw [g1 46 j (by omega), sB 46 j rfl]; exact i3 j) sG
      rw [← hG] at b1
      have e55 : ∀ j, S4 55 j = G 55 j := fun j => u4 55 j
      refine ⟨S4, ⟨u2, ?_, fun j => ?_, fun x' y' hx' hy' hl => ?_⟩, ?_⟩
      · rw [u3, g1 99 4 (by omega), sB 99 4 rfl]; exact i2
      · rw [u4 46 j]
        show G 46 j = _
        rw [g1 46 j (by omega), sB 46 j rfl]; exact i3 j
      · rw [e55, e55]
        by_cases hh : 2 * x' + y' = 2 * x + y
        · have ex : x' = x := by omega
          have ey : y' = y := by omega
          subst ex ey
          refine ⟨?_, ?_⟩
          · rw [hG, sU_n (by omega), sU_s]
          · rw [hG, sU_s]
        · rw [g1 _ _ (by omega), g1 _ _ (by omega), sB 55 _ rfl, sB 55 _ rfl]
          exact i4 x' y' hx' hy' (by omega)
      · show fX12_tellGains_b11 5000 (fX12_tellGains_h11 5000 f) (nI a) (nI b) (nI (2 * x + y)) S = _
        unfold fX12_tellGains_b11
        rw [if_neg (show ¬ (4 : Int32) ≤ nI (2 * x + y) from nI_ge (b := 4) hc (by decide)), a1, b1, bnd_t u1]
  obtain ⟨⟨v, S'⟩, r1, r2, r3⟩ := main
  dsimp only at r2 r3
  subst r2
  refine ⟨S', ?_, r3⟩
  unfold fX12_tellGains fX12_tellGains_b0
  rw [bnd_t k1]
  exact r1
end
theorem okV_eq {ma mb : Bool} {u v : Nat → Int32} {x y : Nat} : okV ma mb u v x y = ((decide (x = 0) || ma) && ((decide (y = 0) || mb) && (ctV ma u v x y && ctV mb v u y x))) := rfl
theorem xor_12 : ∀ x, x < 2 → ∀ y, y < 2 → (nI (2 * x + y)) ^^^ 1 = nI (2 * x + (1 - y)) ∧ (nI (2 * x + y)) ^^^ 2 = nI (2 * (1 - x) + y) := by decide +kernel
theorem dbl (c : Nat) : (2 : Int32) * nI c = nI (2 * c) := by rw [show (2 : Int32) = nI 2 from rfl, pk_mul]
section
variable {S : gS} {x y : Nat} {x3 : Int32} {ma mb : Bool} {u v : Nat → Int32} {p : Int32 × Int32} {r : Int32 → Int32 → Int32 → Int32 → Int32 → Int32 → gS → Option (Int32 × gS)}
theorem half2 (hx : x ≤ 1) (hy : y ≤ 1) : nI (2 * x + y) / 2 = nI x ∧ nI (2 * x + y) - nI (2 * x + y) / 2 * 2 = nI y := by
  refine ⟨?_, ?_⟩
  · rw [show (2 : Int32) = nI 2 from rfl, pk_div (by omega) (by decide) (by decide), show (2 * x + y) / 2 = x by omega]
  · rw [show (2 : Int32) = nI 2 from rfl, pk_rem (by omega) (by decide) (by decide), show (2 * x + y) % 2 = y by omega]
theorem m_sk {c : Nat} {a b e f : Int32} : fX12_game_b202 5000 r x3 a b e f (nI c) S = r x3 a b e f (nI (c + 1)) S := by
  unfold fX12_game_b202
  rw [nI_1]
theorem m_take {a b : Int32} (hx : x ≤ 1) (hy : y ≤ 1) : fX12_game_b174 5000 r x3 a b p.1 p.2 (nI (2 * x + y)) S = r x3 a b (p.1 + 1) (if p.2 = -1 then 10 * nI x + nI y else p.2) (nI (2 * x + y + 1)) S := by
  obtain ⟨e2, em⟩ := half2 hx hy
  unfold fX12_game_b174
  by_cases h1 : p.2 = -1
  · rw [if_pos h1, if_pos h1]
    unfold fX12_game_b183 fX12_game_b200
    rw [em, e2, m_sk]
  · rw [if_neg h1, if_neg h1]
    unfold fX12_game_b198 fX12_game_b200
    rw [m_sk]
theorem gst_t {v : Int32} : gst true v p = (p.1 + 1, if p.2 = -1 then v else p.2) := rfl
theorem gst_f {v : Int32} : gst false v p = p := rfl
theorem ctV_f : ctV false u v x y = true := rfl
theorem ctV_t : ctV true u v x y = decide (¬ gnV u v x y < gnV u v (1 - x) y) := rfl
theorem m_cb {a : Int32} (hx : x ≤ 1) (hy : y ≤ 1) (G : ∀ x y, x ≤ 1 → y ≤ 1 → S 55 (2 * (2 * x + y)) = gnV u v x y ∧ S 55 (2 * (2 * x + y) + 1) = gnV v u y x) : fX12_game_b139 5000 r x3 a (iv mb) p.1 p.2 (nI (2 * x + y)) S = r x3 a (iv mb) (gst (ctV mb v u y x) (10 * nI x + nI y) p).1 (gst (ctV mb v u y x) (10 * nI x + nI y) p).2 (nI (2 * x + y + 1)) S := by
  unfold fX12_game_b139
  cases mb with
  | false =>
    rw [if_pos (show iv false = 0 from rfl), m_take hx hy, ctV_f, gst_t]
  | true =>
    rw [if_neg (show ¬ iv true = 0 by decide)]
    unfold fX12_game_b144
    rw [(xor_12 x (by omega) y (by omega)).1, dbl, dbl, nI_1, nI_1, chk_t (inb_t (by omega) (by decide)), chk_t (inb_t (by omega) (by decide)), nI_clamp (by omega), nI_clamp (by omega), (G x (1 - y) hx (by omega)).2, (G x y hx hy).2, ctV_t]
    by_cases hl : gnV v u (1 - y) x ≤ gnV v u y x
    · rw [if_pos hl, decide_eq_true (Int32.not_lt.mpr hl), m_take hx hy, gst_t]
    · rw [if_neg hl, decide_eq_false (fun q => q (Int32.not_le.mp hl)), gst_f]
      unfold fX12_game_b171
      rw [m_sk]
theorem m_ca (hx : x ≤ 1) (hy : y ≤ 1) (G : ∀ x y, x ≤ 1 → y ≤ 1 → S 55 (2 * (2 * x + y)) = gnV u v x y ∧ S 55 (2 * (2 * x + y) + 1) = gnV v u y x) : fX12_game_b111 5000 r x3 (iv ma) (iv mb) p.1 p.2 (nI (2 * x + y)) S = r x3 (iv ma) (iv mb) (gst (ctV ma u v x y && ctV mb v u y x) (10 * nI x + nI y) p).1 (gst (ctV ma u v x y && ctV mb v u y x) (10 * nI x + nI y) p).2 (nI (2 * x + y + 1)) S := by
  unfold fX12_game_b111
  cases ma with
  | false =>
    rw [if_pos (show iv false = 0 from rfl), m_cb hx hy G, ctV_f, Bool.true_and]
  | true =>
    rw [if_neg (show ¬ iv true = 0 by decide)]
    unfold fX12_game_b116
    rw [(xor_12 x (by omega) y (by omega)).2, dbl, dbl, chk_t (inb_t (by omega) (by decide)), chk_t (inb_t (by omega) (by decide)), nI_clamp (by omega), nI_clamp (by omega), (G (1 - x) y (by omega) hy).1, (G x y hx hy).1, ctV_t]
    by_cases hl : gnV u v x y < gnV u v (1 - x) y
    · rw [if_pos hl, decide_eq_false (fun q => q hl), Bool.false_and, m_sk, gst_f]
    · rw [if_neg hl, decide_eq_true hl, Bool.true_and, m_cb hx hy G]
theorem m_st2 (hx : x ≤ 1) (hy : y ≤ 1) (G : ∀ x y, x ≤ 1 → y ≤ 1 → S 55 (2 * (2 * x + y)) = gnV u v x y ∧ S 55 (2 * (2 * x + y) + 1) = gnV v u y x) : fX12_game_b95 5000 r x3 (iv ma) (iv mb) p.1 p.2 (nI (2 * x + y)) S = r x3 (iv ma) (iv mb) (gst ((decide (y = 0) || mb) && (ctV ma u v x y && ctV mb v u y x)) (10 * nI x + nI y) p).1 (gst ((decide (y = 0) || mb) && (ctV ma u v x y && ctV mb v u y x)) (10 * nI x + nI y) p).2 (nI (2 * x + y + 1)) S := by
  obtain ⟨e2, em⟩ := half2 hx hy
  unfold fX12_game_b95
  rw [em]
  by_cases hy0 : y = 0
  · rw [if_neg (by rw [hy0]; decide), decide_eq_true hy0, Bool.true_or, Bool.true_and]
    exact m_ca hx hy G
  · have hy1 : y = 1 := by omega
    rw [if_pos (by rw [hy1]; rfl), decide_eq_false hy0, Bool.false_or]
    unfold fX12_game_b103
    cases mb with
    | false =>
      rw [if_pos (show iv false = 0 from rfl), Bool.false_and, gst_f]
      unfold fX12_game_b108
      rw [m_sk]
    | true =>
      rw [if_neg (show ¬ iv true = 0 by decide), Bool.true_and]
      exact m_ca hx hy G
/-- one couple in the reference's last loop -/
theorem m_couple (hx : x ≤ 1) (hy : y ≤ 1) (G : ∀ x y, x ≤ 1 → y ≤ 1 → S 55 (2 * (2 * x + y)) = gnV u v x y ∧ S 55 (2 * (2 * x + y) + 1) = gnV v u y x) : fX12_game_b82 5000 r x3 (iv ma) (iv mb) p.1 p.2 (nI (2 * x + y)) S = r x3 (iv ma) (iv mb) (gst (okV ma mb u v x y) (10 * nI x + nI y) p).1 (gst (okV ma mb u v x y) (10 * nI x + nI y) p).2 (nI (2 * x + y + 1)) S := by
  obtain ⟨e2, em⟩ := half2 hx hy
  unfold fX12_game_b82
  rw [e2, okV_eq]
  by_cases hx0 : x = 0
  · rw [if_neg (by rw [hx0]; decide), decide_eq_true hx0, Bool.true_or, Bool.true_and]
    exact m_st2 hx hy G
  · have hx1 : x = 1 := by omega
    rw [if_pos (by rw [hx1]; rfl), decide_eq_false hx0, Bool.false_or]
    unfold fX12_game_b90
    cases ma with
    | false =>
      rw [if_pos (show iv false = 0 from rfl), Bool.false_and, gst_f, m_sk]
    | true =>
      rw [if_neg (show ¬ iv true = 0 by decide), Bool.true_and]
      exact m_st2 hx hy G
end
theorem st_game : Lw_game JJ := by
  intro SX SM x1 x2 x3 hJ
  obtain ⟨S1, Z, h, qs, hS1, c0, hJ1, Zk, h9, C, M, K, w41, x0, x5⟩ := pre hJ
  have z6 := Zk.2.1.2
  have hF : fX12_game 5000 x1 x2 x3 SM = if iv (inb x1 (tn1 Z)) = 0 then fX12_game_b30 5000 S1 else if iv (inb x2 (tn1 Z)) = 0 then fX12_game_b30 5000 S1 else fX12_game_b21 5000 x1 x2 x3 S1 := by
    unfold fX12_game fX12_game_b0
    dsimp only [lt]
    rw [← hS1, bnd_t (m_isGuild M.1.2.1 (by omega))]
    unfold fX12_game_b13
    rw [bnd_t (m_isGuild M.1.2.1 (by omega))]
  cases h1 : inb x1 (tn1 Z) with
  | false =>
    refine stFl 5000 5000 1 hJ one_ne (Or.inr (Or.inl rfl)) (ngF x5 (by omega) h1) ?_
    show fX12_game 5000 x1 x2 x3 SM = _
    rw [hF, h1, ← hS1]
    rfl
  | true =>
  cases h2 : inb x2 (tn1 Z) with
  | false =>
    refine stFl 5000 5000 1 hJ one_ne (Or.inr (Or.inl rfl)) ((ngT x5 (by omega) h1).trans (ngF x5 (by omega) h2)) ?_
    show fX12_game 5000 x1 x2 x3 SM = _
    rw [hF, h1, h2, ← hS1]
    rfl
  | true =>
  have hF2 : fX12_game 5000 x1 x2 x3 SM = fX12_game_b21 5000 x1 x2 x3 S1 := by
    rw [hF, h1, h2]
    rfl
  cases h3 : wth x3 0 1 with
  | false =>
    refine stFl 5000 5000 1 hJ one_ne (Or.inr (Or.inl rfl)) (((ngT x5 (by omega) h1).trans (ngT x5 (by omega) h2)).trans (nwF h3)) ?_
    show fX12_game 5000 x1 x2 x3 SM = _
    rw [hF2, ← hS1]
    unfold fX12_game_b21
    rcases w01F h3 with q | ⟨q1, q2⟩
    · rw [if_pos q]
      rfl
    · rw [if_neg q1]
      unfold fX12_game_b25
      rw [if_neg q2]
      rfl
  | true =>
  obtain ⟨y1, y2, -⟩ := w01T h3
  have hG : fX12_game 5000 x1 x2 x3 SM = if x1 = x2 then fX12_game_b41 5000 S1 else fX12_game_b47 5000 x1 x2 x3 S1 := by
    rw [hF2]
    unfold fX12_game_b21
    rw [if_neg y1]
    unfold fX12_game_b25
    rw [if_pos y2]
    rfl
  have hX : fX11_game 5000 x1 x2 x3 SX = if x1 = x2 then fX11_game_b20 5000 SX else fX11_game_b31 5000 x1 x2 x3 SX := ((ngT x5 (by omega) h1).trans (ngT x5 (by omega) h2)).trans (nwT h3)
  by_cases h12 : x1 = x2
  · refine stFl 5000 5000 2 hJ two_ne (Or.inr (Or.inr rfl)) ?_ ?_
    · show fX11_game 5000 x1 x2 x3 SX = _
      rw [hX, if_pos h12]
      rfl
    · show fX12_game 5000 x1 x2 x3 SM = _
      rw [hG, if_pos h12, ← hS1]
      rfl
  obtain ⟨a, ha, rfl⟩ := inb_of h1 (by omega)
  obtain ⟨b, hb, rfl⟩ := inb_of h2 (by omega)
  have hab : a ≠ b := fun q => h12 (by rw [q])
  obtain ⟨X2, p1, p2⟩ := x_game (x3 := x3) Zk C K ha hb h9
  obtain ⟨S3, r1, r2, r3, r4⟩ := m_tellGains Zk K.h ha hb hab h9 M w41 c0
  have hl : ∀ (x y : Nat) (f : Nat) (p : Int32 × Int32), x ≤ 1 → y ≤ 1 → fX12_game_h76 5000 (f + 1) x3 (iv (mayG qs a)) (iv (mayG qs b)) p.1 p.2 (nI (2 * x + y)) S3 = fX12_game_h76 5000 f x3 (iv (mayG qs a)) (iv (mayG qs b)) (gst (okV (mayG qs a) (mayG qs b) (quG Z (SX 21 1) h qs a) (quG Z (SX 21 1) h qs b) x y) (10 * nI x + nI y) p).1 (gst (okV (mayG qs a) (mayG qs b) (quG Z (SX 21 1) h qs a) (quG Z (SX 21 1) h qs b) x y) (10 * nI x + nI y) p).2 (nI (2 * x + y + 1)) S3 := by
    intro x y f p hx hy
    show fX12_game_b76 5000 (fX12_game_h76 5000 f) x3 _ _ p.1 p.2 (nI (2 * x + y)) S3 = _
    unfold fX12_game_b76
    rw [if_neg (show ¬ (4 : Int32) ≤ nI (2 * x + y) from nI_ge (b := 4) (by omega) (by decide))]
    exact m_couple hx hy r4
  refine stSu 5000 5000 (if x3 = 0 then (fiV (mayG qs a) (mayG qs b) (quG Z (SX 21 1) h qs a) (quG Z (SX 21 1) h qs b)).1 else (fiV (mayG qs a) (mayG qs b) (quG Z (SX 21 1) h qs a) (quG Z (SX 21 1) h qs b)).2) hJ rfl (Or.inl rfl) ⟨(0, (if x3 = 0 then (fiV (mayG qs a) (mayG qs b) (quG Z (SX 21 1) h qs a) (quG Z (SX 21 1) h qs b)).1 else (fiV (mayG qs a) (mayG qs b) (quG Z (SX 21 1) h qs a) (quG Z (SX 21 1) h qs b)).2), X2), ?_, rfl, rfl, xWk.same p2⟩ ⟨((if x3 = 0 then (fiV (mayG qs a) (mayG qs b) (quG Z (SX 21 1) h qs a) (quG Z (SX 21 1) h qs b)).1 else (fiV (mayG qs a) (mayG qs b) (quG Z (SX 21 1) h qs a) (quG Z (SX 21 1) h qs b)).2), S3), ?_, rfl, by rw [← hS1]; exact r2, r3⟩
  · show fX11_game 5000 (nI a) (nI b) x3 SX = _
    rw [hX, if_neg h12]
    exact p1
  · show fX12_game 5000 (nI a) (nI b) x3 SM = _
    rw [hG, if_neg h12]
    unfold fX12_game_b47
    rw [bnd_t (m_canConfess Zk M ha)]
    dsimp only
    rw [bnd_t (m_canConfess Zk M hb)]
    dsimp only
    rw [bnd_t r1]
    show fX12_game_h76 5000 5000 x3 (iv (mayG qs a)) (iv (mayG qs b)) (0, -1).1 ((0 : Int32), (-1 : Int32)).2 (nI (2 * 0 + 0)) S3 = _
    rw [hl 0 0 4999 (0, -1) (by omega) (by omega)]
    show fX12_game_h76 5000 4999 x3 (iv (mayG qs a)) (iv (mayG qs b)) _ _ (nI (2 * 0 + 1)) S3 = _
    rw [hl 0 1 4998 _ (by omega) (by omega)]
    show fX12_game_h76 5000 4998 x3 (iv (mayG qs a)) (iv (mayG qs b)) _ _ (nI (2 * 1 + 0)) S3 = _
    rw [hl 1 0 4997 _ (by omega) (by omega)]
    show fX12_game_h76 5000 4997 x3 (iv (mayG qs a)) (iv (mayG qs b)) _ _ (nI (2 * 1 + 1)) S3 = _
    rw [hl 1 1 4996 _ (by omega) (by omega)]
    show fX12_game_b208 5000 x3 (fiV (mayG qs a) (mayG qs b) (quG Z (SX 21 1) h qs a) (quG Z (SX 21 1) h qs b)).1 (fiV (mayG qs a) (mayG qs b) (quG Z (SX 21 1) h qs a) (quG Z (SX 21 1) h qs b)).2 S3 = _
    unfold fX12_game_b208
    by_cases hx : x3 = 0
    · rw [if_pos hx, if_pos hx]; rfl
    · rw [if_neg hx, if_neg hx]; rfl
