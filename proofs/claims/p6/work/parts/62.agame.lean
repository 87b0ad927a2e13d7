/-! a game -/
noncomputable def quV (Z : gS) (e d : Int32) (h : Nat) (q : qT) : Int32 := nI (cntB (fun k => !trB Z e d (wetZ Z) h q k) 8)
noncomputable def chq (c : Nat) (q : qT) : qT := if c = 1 then cfq q else q
theorem x_quiet {Z SX S : gS} {h g c : Nat} {d : Int32} {qs : Nat → qT} (Zk : tOK Z) (C : cSit 21 Z SX h d qs) (K : qsOK Z (Z 5) qs) (hg : g < tn1 Z) (h9 : h ≤ 999) (hc : c ≤ 1) (h50 : c = 1 → ¬ (qs g).2.1 < 50) (s : oSame xWk SX S) : ∃ S', fX11_quietHours 5000 (nI g) (nI c) S = some (quV Z (Z 5 g) d h (chq c (qs g)), S') ∧ oSame xWk SX S' := by
  have C' := C.on (Or.inl rfl) s
  obtain ⟨X1, b1, b2, b3⟩ := x_begin (N := 5000) (Or.inl rfl) Zk C' hg (by omega)
  have hq : qOK (tn0 Z) (chq c (qs g)) := by
    unfold chq
    by_cases h1 : c = 1
    · rw [if_pos h1]; exact cfq_ok (K.1 g hg) (h50 h1)
    · rw [if_neg h1]; exact K.1 g hg
  have he := K.2.2 g hg
  have loop : ∀ X, wkA X (Z 5 g) d (nI h) (chq c (qs g)) → oSame xWk SX X → ∃ S', fX11_quietHours_h36 5000 5000 0 0 X = some (quV Z (Z 5 g) d h (chq c (qs g)), S') ∧ oSame xWk SX S' := by
    intro X W sX
    have main : Gv (fX11_quietHours_h36 5000 5000 0 0 X) (fun r => r.1 = quV Z (Z 5 g) d h (chq c (qs g)) ∧ oSame xWk SX r.2) := by
      refine loopG (A := gS) (fun f k S => fX11_quietHours_h36 5000 f (nI (cntB (fun k => !trB Z (Z 5 g) d (wetZ Z) h (chq c (qs g)) k) k)) (nI k) S) (fun k S' => wkA S' (Z 5 g) d (nI (h + k)) (trj Z (Z 5 g) d (wetZ Z) h (chq c (qs g)) k) ∧ oSame xWk SX S') _ 8 ?_ ?_ 8 0 X 5000 (by omega) ⟨W, sX⟩ (by omega)
      · rintro f S1 ⟨i1, i2⟩
        exact ⟨(quV Z (Z 5 g) d h (chq c (qs g)), S1), rfl, rfl, i2⟩
      · rintro f k S1 hk ⟨i1, i2⟩
        have hT : tXz (xtw SX) Z S1 := C.1.on xtw_cases i2
        obtain ⟨S2, r1, r2, r3⟩ := x_passHour (N := 5000) (we := wetZ Z (h + k)) xtw_cases Zk hT (trj_ok hq he k) he i1 (by decide)
        rw [nI_1] at r2
        refine Or.inr ⟨S2, ⟨r2, i2.tr r3⟩, ?_⟩
        have hF : fX11_quietHours_h36 5000 (f + 1) (nI (cntB (fun k => !trB Z (Z 5 g) d (wetZ Z) h (chq c (qs g)) k) k)) (nI k) S1 = if iv (trB Z (Z 5 g) d (wetZ Z) h (chq c (qs g)) k) = 0 then fX11_quietHours_b71 5000 (fX11_quietHours_h36 5000 f) (nI (cntB (fun k => !trB Z (Z 5 g) d (wetZ Z) h (chq c (qs g)) k) k)) (nI k) S2 else fX11_quietHours_b74 5000 (fX11_quietHours_h36 5000 f) (nI (cntB (fun k => !trB Z (Z 5 g) d (wetZ Z) h (chq c (qs g)) k) k)) (nI k) S2 := by
          show fX11_quietHours_b36 5000 (fX11_quietHours_h36 5000 f) _ (nI k) S1 = _
          unfold fX11_quietHours_b36
          rw [if_neg (show ¬ (8 : Int32) ≤ nI k from nI_ge (b := 8) hk (by decide))]
          unfold fX11_quietHours_b43
          dsimp only [lt]
          rw [xWk.tw i2, i1.2.2.2.2.2.1, bnd_t (x_wetZ Zk hT (by omega))]
          dsimp only
          rw [bnd_t r1]
          rfl
        show fX11_quietHours_h36 5000 (f + 1) _ (nI k) S1 = fX11_quietHours_h36 5000 f (nI (cntB (fun k => !trB Z (Z 5 g) d (wetZ Z) h (chq c (qs g)) k) k + if (!trB Z (Z 5 g) d (wetZ Z) h (chq c (qs g)) k) = true then 1 else 0)) (nI (k + 1)) S2
        rw [hF]
        cases hb : trB Z (Z 5 g) d (wetZ Z) h (chq c (qs g)) k with
        | false =>
          show fX11_quietHours_b71 5000 (fX11_quietHours_h36 5000 f) (nI (cntB (fun k => !trB Z (Z 5 g) d (wetZ Z) h (chq c (qs g)) k) k)) (nI k) S2 = fX11_quietHours_h36 5000 f (nI (cntB (fun k => !trB Z (Z 5 g) d (wetZ Z) h (chq c (qs g)) k) k + 1)) (nI (k + 1)) S2
          unfold fX11_quietHours_b71 fX11_quietHours_b74
          rw [nI_1, nI_1]
        | true =>
          show fX11_quietHours_b74 5000 (fX11_quietHours_h36 5000 f) (nI (cntB (fun k => !trB Z (Z 5 g) d (wetZ Z) h (chq c (qs g)) k) k)) (nI k) S2 = fX11_quietHours_h36 5000 f (nI (cntB (fun k => !trB Z (Z 5 g) d (wetZ Z) h (chq c (qs g)) k) k)) (nI (k + 1)) S2
          unfold fX11_quietHours_b74
          rw [nI_1]
    obtain ⟨⟨v, S'⟩, r1, r2, r3⟩ := main
    dsimp only at r2 r3
    subst r2
    exact ⟨S', r1, r3⟩
  unfold fX11_quietHours fX11_quietHours_b0
  dsimp only [lt]
  rw [bnd_t b1]
  rcases (show c = 0 ∨ c = 1 by omega) with rfl | rfl
  · exact loop X1 b2 (s.tr b3)
  · obtain ⟨X2, e1, e2, e3⟩ := x_repent (N := 5000) b2
    show ∃ S', fX11_quietHours_b24 5000 X1 = _ ∧ _
    unfold fX11_quietHours_b24
    rw [bnd_t e1]
    exact loop X2 e2 ((s.tr b3).tr e3)
theorem sub_sw (a b c : Int32) : a - b - c = a - c - b := by
  rw [Int32.sub_eq_add_neg, Int32.sub_eq_add_neg, Int32.sub_eq_add_neg, Int32.sub_eq_add_neg, Int32.add_assoc, Int32.add_comm (-b), ← Int32.add_assoc]
/-- what the one with u gains (choice x) against v -/
noncomputable def gnV (u v : Nat → Int32) (x y : Nat) : Int32 := 5 * u x - 6 * nI x - 3 * v y
noncomputable def gst (ok : Bool) (v : Int32) (p : Int32 × Int32) : Int32 × Int32 := if ok = true then (p.1 + 1, if p.2 = -1 then v else p.2) else p
/-- content with choice x, if it may choose -/
noncomputable def ctV (may : Bool) (u v : Nat → Int32) (x y : Nat) : Bool := !may || decide (¬ gnV u v x y < gnV u v (1 - x) y)
noncomputable def okV (ma mb : Bool) (u v : Nat → Int32) (x y : Nat) : Bool := (decide (x = 0) || ma) && ((decide (y = 0) || mb) && (ctV ma u v x y && ctV mb v u y x))
noncomputable def fiV (ma mb : Bool) (u v : Nat → Int32) : Int32 × Int32 := gst (okV ma mb u v 1 1) 11 (gst (okV ma mb u v 1 0) 10 (gst (okV ma mb u v 0 1) 1 (gst (okV ma mb u v 0 0) 0 (0, -1))))
section
variable {Z SX : gS} {h a b : Nat} {d : Int32} {qs : Nat → qT}
noncomputable def mayG (qs : Nat → qT) (g : Nat) : Bool := decide (¬ (qs g).2.1 < 50)
noncomputable def quG (Z : gS) (d : Int32) (h : Nat) (qs : Nat → qT) (g : Nat) (c : Nat) : Int32 := quV Z (Z 5 g) d h (chq c (qs g))
theorem x_mostChoice {S : gS} (Zk : tOK Z) (C : cSit 21 Z SX h d qs) (ha : a < tn1 Z) (s : oSame xWk SX S) : fX11_mostChoice 5000 (nI a) S = some (iv (mayG qs a), S) := by
  have z6 := Zk.2.1.2
  unfold fX11_mostChoice fX11_mostChoice_b0 mayG
  rw [chk_t (inb_t (by omega) (by decide)), nI_clamp (by omega), s 23 a rfl, show SX 23 a = (qs a).2.1 from (C.2.2.2 a ha).2.1]
  by_cases h5 : (qs a).2.1 < 50
  · rw [if_neg (Int32.not_le.mpr h5), decide_eq_false (fun q => q h5)]
    rfl
  · rw [if_pos (Int32.not_lt.mp h5), decide_eq_true h5]
    rfl
theorem x_gain {S : gS} {x y : Nat} (Zk : tOK Z) (C : cSit 21 Z SX h d qs) (K : qsOK Z (Z 5) qs) (ha : a < tn1 Z) (hb : b < tn1 Z) (h9 : h ≤ 999) (hx : x ≤ 1) (hy : y ≤ 1) (mx : x = 1 → mayG qs a = true) (my : y = 1 → mayG qs b = true) (s : oSame xWk SX S) : ∃ S', fX11_gain 5000 (nI a) (nI x) (nI b) (nI y) S = some (gnV (quG Z d h qs a) (quG Z d h qs b) x y, S') ∧ oSame xWk SX S' := by
  obtain ⟨S1, a1, a2⟩ := x_quiet (c := x) Zk C K ha h9 hx (fun q => of_decide_eq_true (mx q)) s
  obtain ⟨S2, b1, b2⟩ := x_quiet (c := y) Zk C K hb h9 hy (fun q => of_decide_eq_true (my q)) a2
  refine ⟨S2, ?_, b2⟩
  unfold fX11_gain fX11_gain_b0
  rw [bnd_t a1]
  dsimp only
  rw [bnd_t b1]
  rfl
theorem x_content {S : gS} {x y : Nat} (Zk : tOK Z) (C : cSit 21 Z SX h d qs) (K : qsOK Z (Z 5) qs) (ha : a < tn1 Z) (hb : b < tn1 Z) (h9 : h ≤ 999) (hx : x ≤ 1) (hy : y ≤ 1) (mx : x = 1 → mayG qs a = true) (my : y = 1 → mayG qs b = true) (s : oSame xWk SX S) : ∃ S', fX11_isContent 5000 (nI a) (nI x) (nI b) (nI y) S = some (iv (ctV (mayG qs a) (quG Z d h qs a) (quG Z d h qs b) x y), S') ∧ oSame xWk SX S' := by
  have e1 : (1 : Int32) - nI x = nI (1 - x) := by rw [show (1 : Int32) = nI 1 from rfl, pk_sub hx]
  unfold fX11_isContent fX11_isContent_b0
  rw [bnd_t (x_mostChoice Zk C ha s), e1]
  cases hm : mayG qs a with
  | false =>
    have hx0 : x = 0 := by
      rcases (show x = 0 ∨ x = 1 by omega) with q | q
      · exact q
      · rw [mx q] at hm; cases hm
    subst hx0
    refine ⟨S, ?_, s⟩
    rfl
  | true =>
    obtain ⟨S1, a1, a2⟩ := x_gain (x := 1 - x) (y := y) Zk C K ha hb h9 (by omega) hy (fun _ => hm) my s
    obtain ⟨S2, b1, b2⟩ := x_gain (x := x) (y := y) Zk C K ha hb h9 hx hy mx my a2
    refine ⟨S2, ?_, b2⟩
    show (if (1 : Int32) < nI (1 - x) then _ else _) = _
    rw [if_neg (show ¬ (1 : Int32) < nI (1 - x) from nI_nlt (a := 1) (by omega) (by decide))]
    unfold fX11_isContent_b15
    rw [bnd_t a1]
    dsimp only
    rw [bnd_t b1]
    show (if gnV (quG Z d h qs a) (quG Z d h qs b) x y < gnV (quG Z d h qs a) (quG Z d h qs b) (1 - x) y then _ else _) = _
    unfold ctV
    by_cases hl : gnV (quG Z d h qs a) (quG Z d h qs b) x y < gnV (quG Z d h qs a) (quG Z d h qs b) (1 - x) y
    · rw [if_pos hl, decide_eq_false (fun q => q hl)]
      rfl
    · rw [if_neg hl, decide_eq_true hl]
      rfl
theorem x_couple {S : gS} {x y : Nat} {x3 : Int32} {p : Int32 × Int32} {r : Int32 → Int32 → Int32 → Int32 → Int32 → Int32 → gS → Option tR} {r' : Int32 → Int32 → Int32 → Int32 → Int32 → Int32 → Int32 → gS → Option tR} (Zk : tOK Z) (C : cSit 21 Z SX h d qs) (K : qsOK Z (Z 5) qs) (ha : a < tn1 Z) (hb : b < tn1 Z) (h9 : h ≤ 999) (hx : x ≤ 1) (hy : y ≤ 1) (mx : x = 1 → mayG qs a = true) (my : y = 1 → mayG qs b = true) (s : oSame xWk SX S) : ∃ S', fX11_game_b63 5000 r r' (nI a) (nI b) x3 p.1 p.2 (nI x) (nI y) S = r' (nI a) (nI b) x3 (gst (okV (mayG qs a) (mayG qs b) (quG Z d h qs a) (quG Z d h qs b) x y) (10 * nI x + nI y) p).1 (gst (okV (mayG qs a) (mayG qs b) (quG Z d h qs a) (quG Z d h qs b) x y) (10 * nI x + nI y) p).2 (nI x) (nI (y + 1)) S' ∧ oSame xWk SX S' := by
  obtain ⟨S1, a1, a2⟩ := x_content (x := x) (y := y) Zk C K ha hb h9 hx hy mx my s
  have hxx : (decide (x = 0) || mayG qs a) = true := by
    rcases (show x = 0 ∨ x = 1 by omega) with q | q
    · rw [q]; rfl
    · rw [mx q, Bool.or_true]
  have hyy : (decide (y = 0) || mayG qs b) = true := by
    rcases (show y = 0 ∨ y = 1 by omega) with q | q
    · rw [q]; rfl
    · rw [my q, Bool.or_true]
  unfold okV
  rw [hxx, hyy, Bool.true_and, Bool.true_and]
  unfold fX11_game_b63
  rw [bnd_t a1]
  cases hc1 : ctV (mayG qs a) (quG Z d h qs a) (quG Z d h qs b) x y with
  | false =>
    refine ⟨S1, ?_, a2⟩
    show fX11_game_b113 5000 r r' (nI a) (nI b) x3 p.1 p.2 (nI x) (nI y) S1 = r' (nI a) (nI b) x3 p.1 p.2 (nI x) (nI (y + 1)) S1
    unfold fX11_game_b113
    rw [nI_1]
  | true =>
    obtain ⟨S2, b1, b2⟩ := x_content (a := b) (b := a) (x := y) (y := x) Zk C K hb ha h9 hy hx my mx a2
    show ∃ S', fX11_game_b76 5000 r r' (nI a) (nI b) x3 p.1 p.2 (nI x) (nI y) S1 = _ ∧ _
    unfold fX11_game_b76
    rw [bnd_t b1]
    cases hc2 : ctV (mayG qs b) (quG Z d h qs b) (quG Z d h qs a) y x with
    | false =>
      refine ⟨S2, ?_, b2⟩
      show fX11_game_b113 5000 r r' (nI a) (nI b) x3 p.1 p.2 (nI x) (nI y) S2 = r' (nI a) (nI b) x3 p.1 p.2 (nI x) (nI (y + 1)) S2
      unfold fX11_game_b113
      rw [nI_1]
    | true =>
      refine ⟨S2, ?_, b2⟩
      show fX11_game_b89 5000 r r' (nI a) (nI b) x3 p.1 p.2 (nI x) (nI y) S2 = r' (nI a) (nI b) x3 (p.1 + 1) (if p.2 = -1 then 10 * nI x + nI y else p.2) (nI x) (nI (y + 1)) S2
      unfold fX11_game_b89
      by_cases h1 : p.2 = -1
      · rw [if_pos h1, if_pos h1]
        unfold fX11_game_b98 fX11_game_b111 fX11_game_b113
        rw [nI_1]
      · rw [if_neg h1, if_neg h1]
        unfold fX11_game_b109 fX11_game_b111 fX11_game_b113
        rw [nI_1]
theorem gst_no {ok : Bool} {v : Int32} {p : Int32 × Int32} (h : ok = false) : gst ok v p = p := by
  unfold gst
  rw [h]
  rfl
/-- the other one's choices, the first one's being x -/
theorem x_row {S : gS} {x : Nat} {x3 : Int32} {p : Int32 × Int32} {r : Int32 → Int32 → Int32 → Int32 → Int32 → Int32 → gS → Option tR} (Zk : tOK Z) (C : cSit 21 Z SX h d qs) (K : qsOK Z (Z 5) qs) (ha : a < tn1 Z) (hb : b < tn1 Z) (h9 : h ≤ 999) (hx : x ≤ 1) (mx : x = 1 → mayG qs a = true) (s : oSame xWk SX S) : ∃ S', fX11_game_b50 5000 r (nI a) (nI b) x3 p.1 p.2 (nI x) S = r (nI a) (nI b) x3 (gst (okV (mayG qs a) (mayG qs b) (quG Z d h qs a) (quG Z d h qs b) x 1) (10 * nI x + nI 1) (gst (okV (mayG qs a) (mayG qs b) (quG Z d h qs a) (quG Z d h qs b) x 0) (10 * nI x + nI 0) p)).1 (gst (okV (mayG qs a) (mayG qs b) (quG Z d h qs a) (quG Z d h qs b) x 1) (10 * nI x + nI 1) (gst (okV (mayG qs a) (mayG qs b) (quG Z d h qs a) (quG Z d h qs b) x 0) (10 * nI x + nI 0) p)).2 (nI (x + 1)) S' ∧ oSame xWk SX S' := by
  obtain ⟨S1, a1, a2⟩ := x_couple (x := x) (y := 0) (x3 := x3) (p := p) (r := r) (r' := fX11_game_h53 5000 r 4999) Zk C K ha hb h9 hx (by omega) mx (fun q => by omega) s
  generalize hp1 : gst (okV (mayG qs a) (mayG qs b) (quG Z d h qs a) (quG Z d h qs b) x 0) (10 * nI x + nI 0) p = p1 at a1 ⊢
  have e1 : fX11_game_b50 5000 r (nI a) (nI b) x3 p.1 p.2 (nI x) S = fX11_game_h53 5000 r 4999 (nI a) (nI b) x3 p1.1 p1.2 (nI x) (nI 1) S1 := by
    show fX11_game_b53 5000 r (fX11_game_h53 5000 r 4999) (nI a) (nI b) x3 p.1 p.2 (nI x) (nI 0) S = _
    unfold fX11_game_b53
    rw [bnd_t (x_mostChoice Zk C hb s)]
    rw [← a1]
    cases mayG qs b <;> rfl
  rw [e1]
  show ∃ S', fX11_game_b53 5000 r (fX11_game_h53 5000 r 4998) (nI a) (nI b) x3 p1.1 p1.2 (nI x) (nI 1) S1 = _ ∧ _
  unfold fX11_game_b53
  rw [bnd_t (x_mostChoice Zk C hb a2)]
  cases hm : mayG qs b with
  | false =>
    rw [gst_no (ok := okV (mayG qs a) false (quG Z d h qs a) (quG Z d h qs b) x 1) (by unfold okV; simp)]
    refine ⟨S1, ?_, a2⟩
    show fX11_game_b119 5000 r (nI a) (nI b) x3 p1.1 p1.2 (nI x) S1 = _
    unfold fX11_game_b119
    rw [nI_1]
  | true =>
    obtain ⟨S2, b1, b2⟩ := x_couple (x := x) (y := 1) (x3 := x3) (p := p1) (r := r) (r' := fX11_game_h53 5000 r 4998) Zk C K ha hb h9 hx (by omega) mx (fun _ => hm) a2
    rw [hm] at b1
    show ∃ S', fX11_game_b63 5000 r (fX11_game_h53 5000 r 4998) (nI a) (nI b) x3 p1.1 p1.2 (nI x) (nI 1) S1 = _ ∧ _
    rw [b1]
    refine ⟨S2, ?_, b2⟩
    show fX11_game_b53 5000 r (fX11_game_h53 5000 r 4997) (nI a) (nI b) x3 _ _ (nI x) (nI 2) S2 = _
    unfold fX11_game_b53
    rw [bnd_t (x_mostChoice Zk C hb b2), hm]
    show fX11_game_b119 5000 r (nI a) (nI b) x3 _ _ (nI x) S2 = _
    unfold fX11_game_b119
    rw [nI_1]
theorem x_game (Zk : tOK Z) (C : cSit 21 Z SX h d qs) (K : qsOK Z (Z 5) qs) (ha : a < tn1 Z) (hb : b < tn1 Z) (h9 : h ≤ 999) {x3 : Int32} : ∃ S', fX11_game_b31 5000 (nI a) (nI b) x3 SX = some (0, (if x3 = 0 then (fiV (mayG qs a) (mayG qs b) (quG Z d h qs a) (quG Z d h qs b)).1 else (fiV (mayG qs a) (mayG qs b) (quG Z d h qs a) (quG Z d h qs b)).2), S') ∧ oSame xWk SX S' := by
  obtain ⟨S1, a1, a2⟩ := x_row (x := 0) (x3 := x3) (p := (0, -1)) (r := fX11_game_h40 5000 4999) Zk C K ha hb h9 (by omega) (fun q => by omega) (oSame.rf (S := SX))
  generalize hp1 : gst (okV (mayG qs a) (mayG qs b) (quG Z d h qs a) (quG Z d h qs b) 0 1) (10 * nI 0 + nI 1) (gst (okV (mayG qs a) (mayG qs b) (quG Z d h qs a) (quG Z d h qs b) 0 0) (10 * nI 0 + nI 0) (0, -1)) = p1 at a1
  have hp1 : gst (okV (mayG qs a) (mayG qs b) (quG Z d h qs a) (quG Z d h qs b) 0 1) 1 (gst (okV (mayG qs a) (mayG qs b) (quG Z d h qs a) (quG Z d h qs b) 0 0) 0 (0, -1)) = p1 := hp1
  have e1 : fX11_game_b31 5000 (nI a) (nI b) x3 SX = fX11_game_h40 5000 4999 (nI a) (nI b) x3 p1.1 p1.2 (nI 1) S1 := by
    show fX11_game_b40 5000 (fX11_game_h40 5000 4999) (nI a) (nI b) x3 0 (-1) (nI 0) SX = _
    unfold fX11_game_b40
    rw [bnd_t (x_mostChoice Zk C ha oSame.rf), ← a1]
    cases mayG qs a <;> rfl
  rw [e1]
  unfold fiV
  rw [hp1]
  show ∃ S', fX11_game_b40 5000 (fX11_game_h40 5000 4998) (nI a) (nI b) x3 p1.1 p1.2 (nI 1) S1 = _ ∧ _
  unfold fX11_game_b40
  rw [bnd_t (x_mostChoice Zk C ha a2)]
  have fin : ∀ (p : Int32 × Int32) (S : gS), fX11_game_b125 5000 x3 p.1 p.2 S = some (0, (if x3 = 0 then p.1 else p.2), S) := by
    intro p S
    unfold fX11_game_b125
    by_cases hx : x3 = 0
    · rw [if_pos hx, if_pos hx]; rfl
    · rw [if_neg hx, if_neg hx]; rfl
  cases hm : mayG qs a with
  | false =>
    rw [gst_no (ok := okV false (mayG qs b) (quG Z d h qs a) (quG Z d h qs b) 1 1) (by unfold okV; simp), gst_no (ok := okV false (mayG qs b) (quG Z d h qs a) (quG Z d h qs b) 1 0) (by unfold okV; simp)]
    exact ⟨S1, fin p1 S1, a2⟩
  | true =>
    obtain ⟨S2, b1, b2⟩ := x_row (x := 1) (x3 := x3) (p := p1) (r := fX11_game_h40 5000 4998) Zk C K ha hb h9 (by omega) (fun _ => hm) a2
    rw [hm] at b1
    show ∃ S', fX11_game_b50 5000 (fX11_game_h40 5000 4998) (nI a) (nI b) x3 p1.1 p1.2 (nI 1) S1 = _ ∧ _
    rw [b1]
    refine ⟨S2, ?_, b2⟩
    show fX11_game_b40 5000 (fX11_game_h40 5000 4997) (nI a) (nI b) x3 _ _ (nI 2) S2 = _
    unfold fX11_game_b40
    rw [bnd_t (x_mostChoice Zk C ha b2), hm]
    exact fin (gst (okV true (mayG qs b) (quG Z d h qs a) (quG Z d h qs b) 1 1) 11 (gst (okV true (mayG qs b) (quG Z d h qs a) (quG Z d h qs b) 1 0) 10 p1)) S2
end
