/-! part 77.guess -/
section
section
variable {Z S S0 : gS} {d : Int32} {h g n v : Nat} {qs : Nat → qT} {wh wn : Nat → Nat} {sn : Nat → Int32}
/-- what the class knows behind the first j guesses -/
def wjX (Z : gS) (d : Int32) (h : Nat) (qs : Nat → qT) (F : Nat → Bool) (j : Nat) (S : gS) : Prop := S 62 3 = nI (cntB F j) ∧ S 62 4 = (if cntB F j = 0 then -1 else nI (fI F 0)) ∧ ∀ t, 1 ≤ t → t ≤ 20 → S 71 t = nI (orN (fun i => wsN Z d h qs (fI F i) t) (cntB F j))
theorem seX.sm {S S' : gS} (X : seX n wh wn sn S) (hn : n ≤ 8) (s : xSame S S') : seX n wh wn sn S' := by
  refine ⟨(s 28 3 rfl).trans X.1, fun i hi => ?_⟩
  obtain ⟨a, b, c⟩ := X.2 i hi
  exact ⟨(s 29 i rfl).trans a, (s 30 i rfl).trans b, (s 31 i rfl).trans c⟩
/-- what stays while one guess is tried -/
def tgX (Z : gS) (d : Int32) (h : Nat) (qs : Nat → qT) (al : Int32) (S0 S : gS) : Prop := xSame S0 S ∧ rwX Z d h qs S (tn1 Z) ∧ S 62 5 = al
theorem x_tryGreeds {al : Int32} {F : Nat → Bool} (hF : F = fitB Z d h qs n wh wn sn) (Zk : tOK Z) (C : cSit 21 Z S0 h d qs) (K : qsOK Z (Z 5) qs) (hk : seK Z n wh wn) (X : seX n wh wn sn S0) (h9 : h ≤ 999) (hg : g < tn1 Z) (ho : otB Z d h qs n wh wn sn (nI g) = true) (tg : tgX Z d h qs al S0 S) (wj : wjX Z d h qs F (10 * g) S) : ∃ S', fX2_tryGreeds 5000 (xtw S0) 20 (nI g) S = some (0, S') ∧ tgX Z d h qs al S0 S' ∧ wjX Z d h qs F (10 * (g + 1)) S' := by
  have z6 := Zk.2.1.2
  have main : Gv (fX2_tryGreeds_h3 5000 5000 (xtw S0) 20 (nI g) 0 S) (fun r => r.1 = 0 ∧ tgX Z d h qs al S0 r.2 ∧ wjX Z d h qs F (10 * g + 10) r.2) := by
    refine loopG (A := gS) (fun f k S1 => fX2_tryGreeds_h3 5000 f (xtw S0) 20 (nI g) (nI k) S1) (fun k S1 => tgX Z d h qs al S0 S1 ∧ wjX Z d h qs F (10 * g + k) S1) _ 10 ?_ ?_ 10 0 S 5000 (by omega) ⟨tg, wj⟩ (by omega)
    · rintro f S1 ⟨i1, i2⟩
      refine ⟨(0, S1), ?_, rfl, i1, i2⟩
      show fX2_tryGreeds_b3 5000 _ (xtw S0) 20 (nI g) (nI 10) S1 = _
      unfold fX2_tryGreeds_b3
      rw [if_pos (by decide)]
      rfl
    · rintro f v S1 hv ⟨⟨i1, i2, i3⟩, j1, j2, j3⟩
      have C1 := C.sm i1
      have ht : xtw S1 = xtw S0 := by unfold xtw; rw [i1 0 7 rfl]
      have hTc := xtw_cases (S := S0)
      have c60 := cntB_le (c := F) (10 * g + v)
      have eF : F (10 * g + v) = (!(decide (nI v = Z 5 g)) && suB n wh wn sn (sq Z d h qs (nI v) g) g) := by
        rw [hF]
        unfold fitB
        rw [show (10 * g + v) / 10 = g by omega, show (10 * g + v) % 10 = v by omega, ho, Bool.true_and]
      have eC : cntB F (10 * g + (v + 1)) = cntB F (10 * g + v) + if F (10 * g + v) = true then 1 else 0 := rfl
      refine Or.inr ?_
      have hF0 : fX2_tryGreeds_h3 5000 (f + 1) (xtw S0) 20 (nI g) (nI v) S1 = if nI v = Z 5 g then fX2_tryGreeds_h3 5000 f (xtw S0) 20 (nI g) (nI (v + 1)) S1 else fX2_tryGreeds_b22 5000 (fX2_tryGreeds_h3 5000 f) (xtw S0) 20 (nI g) (nI v) S1 := by
        show fX2_tryGreeds_b3 5000 (fX2_tryGreeds_h3 5000 f) (xtw S0) 20 (nI g) (nI v) S1 = _
        unfold fX2_tryGreeds_b3
        rw [if_neg (show ¬ (9 : Int32) < nI v from nI_nlt (a := 9) (by omega) (by decide))]
        unfold fX2_tryGreeds_b10
        rw [chk_t (inb_t (by omega) (by decide)), nI_clamp (n := g) (by omega), ← ht]
        simp only [C1.1 5 g (by omega) (by omega)]
        unfold fX2_tryGreeds_b108
        rw [nI_1 v]
      have b108 : ∀ S', fX2_tryGreeds_b108 5000 (fX2_tryGreeds_h3 5000 f) (xtw S0) 20 (nI g) (nI v) S' = fX2_tryGreeds_h3 5000 f (xtw S0) 20 (nI g) (nI (v + 1)) S' := by
        intro S'
        unfold fX2_tryGreeds_b108
        rw [nI_1 v]
      by_cases hq : nI v = Z 5 g
      · rw [decide_eq_true hq] at eF
        have eF : F (10 * g + v) = false := eF
        rw [if_neg (by rw [eF]; decide)] at eC
        refine ⟨S1, ⟨⟨i1, i2, i3⟩, ?_⟩, ?_⟩
        · unfold wjX
          rw [eC]
          exact ⟨j1, j2, j3⟩
        · show fX2_tryGreeds_h3 5000 (f + 1) (xtw S0) 20 (nI g) (nI v) S1 = _
          rw [hF0, if_pos hq]
      · rw [decide_eq_false hq] at eF
        have eF : F (10 * g + v) = suB n wh wn sn (sq Z d h qs (nI v) g) g := eF
        obtain ⟨X1, b1, b2, b3⟩ := x_begin (N := 5000) (nd := 21) (Or.inl rfl) Zk C1 hg (by omega)
        rw [ht] at b1
        obtain ⟨X2, hX2⟩ : ∃ z, z = sU X1 51 0 (nI v) := ⟨_, rfl⟩
        have s2 : oSame xWk S1 X2 := by rw [hX2]; exact b3.up rfl
        have W2 : wkA X2 (nI v) d (nI h) (qs g) := by
          rw [hX2]
          unfold wkA at b2 ⊢
          refine ⟨by rw [sU_ap, if_pos ⟨rfl, rfl⟩], ?_⟩
          rw [sU_ap, if_neg (by omega), sU_ap, if_neg (by omega), sU_ap, if_neg (by omega), sU_ap, if_neg (by omega), sU_ap, if_neg (by omega), sU_ap, if_neg (by omega)]
          exact b2.2
        have x2 : xSame S0 X2 := i1.tr (xWk.same s2)
        have C2 := C.sm x2
        have ht2 : xtw X2 = xtw S0 := by unfold xtw; rw [x2 0 7 rfl]
        have tx2 : tXz (xtw S0) Z X2 := by rw [← ht2]; exact C2.1
        obtain ⟨X3, f1, f2, f3⟩ := x_follow (T1 := 70) (by decide) (by decide) Zk tx2 ht2 (K.1 g hg) ⟨v, by omega, rfl⟩ W2 h9
        have k3 : ∀ i j, xWk i j = false → i ≠ 70 → X3 i j = S1 i j := by
          intro i j a b
          rw [f3 i j (by show (xWk i j || i == 70) = false; rw [a, beq_false_of_ne b]; rfl)]
          exact s2 i j a
        have x3 : xSame S0 X3 := by
          refine i1.tr (fun i j hij => k3 i j ?_ (fun q => by rw [q] at hij; cases hij))
          refine xWk_f ?_
          refine ⟨?_, ?_, ?_, ?_, ?_⟩ <;> intro q <;> rw [q] at hij <;> cases hij
        have C3 := C.sm x3
        have ht3 : xtw X3 = xtw S0 := by unfold xtw; rw [x3 0 7 rfl]
        have R3 : rwX Z d h qs X3 (tn1 Z) := fun g' a t b => (k3 _ t (xWk_f (by omega)) (by omega)).trans (i2 g' a t b)
        have R7 : ∀ t, t ≤ 20 → X3 70 t = sq Z d h qs (nI v) g t := f2
        have hsu := x_suits (T1 := 70) (R := sq Z d h qs (nI v) g) (g := g) (by decide) (by omega) hk z6 (X.sm hk.1 x3) R7
        have hF1 : fX2_tryGreeds_h3 5000 (f + 1) (xtw S0) 20 (nI g) (nI v) S1 = if iv (F (10 * g + v)) = 0 then fX2_tryGreeds_b108 5000 (fX2_tryGreeds_h3 5000 f) (xtw S0) 20 (nI g) (nI v) X3 else fX2_tryGreeds_b64 5000 (fX2_tryGreeds_h3 5000 f) (xtw S0) 20 (nI g) (nI v) X3 := by
          rw [hF0, if_neg hq, eF]
          unfold fX2_tryGreeds_b22
          dsimp only [lt]
          rw [bnd_t (show fX10_begin 5000 (xtw S0) (20 + 1) (nI g) S1 = _ from b1)]
          dsimp only
          rw [← hX2, bnd_t f1]
          dsimp only
          rw [bnd_t (show fX5_suits 5000 (20 + 8) (nI g) 70 X3 = _ from hsu)]
        have j1' : X3 62 3 = nI (cntB F (10 * g + v)) := (k3 62 3 rfl (by decide)).trans j1
        have j2' : X3 62 4 = (if cntB F (10 * g + v) = 0 then -1 else nI (fI F 0)) := (k3 62 4 rfl (by decide)).trans j2
        have j3' : ∀ t, 1 ≤ t → t ≤ 20 → X3 71 t = nI (orN (fun i => wsN Z d h qs (fI F i) t) (cntB F (10 * g + v))) := fun t a b => (k3 71 t rfl (by decide)).trans (j3 t a b)
        have i3' : X3 62 5 = al := (k3 62 5 rfl (by decide)).trans i3
        cases hs : F (10 * g + v) with
        | false =>
          rw [if_neg (by rw [hs]; decide)] at eC
          refine ⟨X3, ⟨⟨x3, R3, i3'⟩, ?_⟩, ?_⟩
          · unfold wjX
            rw [eC]
            exact ⟨j1', j2', j3'⟩
          · show fX2_tryGreeds_h3 5000 (f + 1) (xtw S0) 20 (nI g) (nI v) S1 = _
            rw [hF1, hs]
            exact b108 X3
        | true =>
          rw [if_pos hs] at eC
          have hat : fI F (cntB F (10 * g + v)) = 10 * g + v := fI_at (by omega) hs
          obtain ⟨X4, hX4⟩ : ∃ z, z = sU (sU X3 62 3 (nI (cntB F (10 * g + v) + 1))) 62 4 (nI (fI F 0)) := ⟨_, rfl⟩
          have k4 : ∀ i j, i ≠ 62 → X4 i j = X3 i j := by
            intro i j q
            rw [hX4, sU_ne q, sU_ne q]
          have x4 : xSame X3 X4 := fun i j hij => k4 i j (fun q => by rw [q] at hij; cases hij)
          have ht4 : xtw X4 = xtw S0 := by unfold xtw; rw [x4 0 7 rfl, x3 0 7 rfl]
          obtain ⟨X5, w1, w2, w3⟩ := x_markWorst (S := X4) (A := fun t => orN (fun i => wsN Z d h qs (fI F i) t) (cntB F (10 * g + v))) Zk (C3.sm x4) K (fun g' a t b => (k4 _ t (by omega)).trans (R3 g' a t b)) hg (by omega) (fun t b => (k4 70 t (by decide)).trans (R7 t b)) (fun t => orN_lt _ (fun i _ => wsN_lt Zk)) (fun t a b => (k4 71 t (by decide)).trans (j3' t a b))
          rw [ht4] at w1
          have x5 : xSame S0 X5 := (x3.tr x4).tr (fun i j hij => w2 i j (fun q => by rw [q] at hij; cases hij))
          refine ⟨X5, ⟨⟨x5, fun g' a t b => ?_, ?_⟩, ?_, ?_, fun t a b => ?_⟩, ?_⟩
          · rw [w2 _ t (by omega), k4 _ t (by omega)]
            exact R3 g' a t b
          · rw [w2 62 5 (by decide), hX4, sU_ap, if_neg (by omega), sU_ap, if_neg (by omega)]
            exact i3'
          · rw [w2 62 3 (by decide), hX4, sU_ap, if_neg (by omega), sU_ap, if_pos ⟨rfl, rfl⟩, eC]
          · rw [w2 62 4 (by decide), hX4, sU_ap, if_pos ⟨rfl, rfl⟩, eC, if_neg (by omega)]
          · rw [w3 t a b, eC]
            show _ = nI (orN _ _ ||| 2 ^ wsN Z d h qs (fI F (cntB F (10 * g + v))) t)
            rw [hat]
          · show fX2_tryGreeds_h3 5000 (f + 1) (xtw S0) 20 (nI g) (nI v) S1 = _
            rw [hF1, hs]
            show fX2_tryGreeds_b64 5000 (fX2_tryGreeds_h3 5000 f) (xtw S0) 20 (nI g) (nI v) X3 = _
            have b98 : ∀ x, x = nI (fI F 0) → fX2_tryGreeds_b98 5000 (fX2_tryGreeds_h3 5000 f) (xtw S0) 20 (nI g) (nI v) x (sU X3 62 3 (nI (cntB F (10 * g + v) + 1))) = fX2_tryGreeds_h3 5000 f (xtw S0) 20 (nI g) (nI (v + 1)) X5 := by
              intro x hx
              unfold fX2_tryGreeds_b98
              dsimp only [lt]
              rw [hx, ← hX4, bnd_t w1]
              exact b108 X5
            unfold fX2_tryGreeds_b64
            dsimp only [lt]
            rw [j1', nI_1 (cntB F (10 * g + v))]
            have e4 : sU X3 62 3 (nI (cntB F (10 * g + v) + 1)) 62 4 = (if cntB F (10 * g + v) = 0 then -1 else nI (fI F 0)) := by
              rw [sU_ap, if_neg (by omega)]
              exact j2'
            rw [e4]
            by_cases h0 : cntB F (10 * g + v) = 0
            · rw [if_pos h0, if_pos rfl]
              refine b98 _ ?_
              rw [h0] at hat
              rw [hat, show (10 : Int32) = nI 10 from rfl, pk_mul, nI_add]
            · have h60 : fI F 0 ≤ 60 := by
                unfold fI
                rcases fsK_sp (ok := fun j => F j && decide (cntB F j = 0)) 60 with ⟨a1, -, -⟩ | ⟨a1, -⟩ <;> omega
              rw [if_neg h0, if_neg (nI_nem (by omega))]
              refine b98 _ ?_
              rw [e4, if_neg h0]
  obtain ⟨⟨w, S'⟩, r1, r2, r3⟩ := main
  dsimp only at r2 r3
  subst r2
  exact ⟨S', r1, r3⟩
end
end

/-! part 78.weigh -/
section
theorem x_weigh_0 {N k1 k2 : Nat} {S : gS} : fX2_weigh N k1 k2 S = fX2_weigh_h13 N N k1 k2 0 (sU (sU S 62 3 0) 62 4 (-1)) := rfl
section
variable {Z S S0 : gS} {d : Int32} {h g n v : Nat} {qs : Nat → qT} {wh wn : Nat → Nat} {sn : Nat → Int32}
theorem x_weigh {F : Nat → Bool} (hF : F = fitB Z d h qs n wh wn sn) (Zk : tOK Z) (C : cSit 21 Z S0 h d qs) (K : qsOK Z (Z 5) qs) (hk : seK Z n wh wn) (X : seX n wh wn sn S0) (h9 : h ≤ 999) : ∃ S', fX2_weigh 5000 (xtw S0) 20 S0 = some (0, S') ∧ xSame S0 S' ∧ S' 62 5 = iv (otB Z d h qs n wh wn sn (-1)) ∧ wjX Z d h qs F (10 * tn1 Z) S' := by
  have z6 := Zk.2.1.2
  have hTc := xtw_cases (S := S0)
  have xx : ∀ S1, xSame S0 S1 → S1 (xtw S0) 5 = nI (tn1 Z) ∧ xtw S1 = xtw S0 := by
    intro S1 s
    have ht : xtw S1 = xtw S0 := by unfold xtw; rw [s 0 7 rfl]
    refine ⟨?_, ht⟩
    rw [← ht]
    exact ((C.sm s).1 0 5 (by omega) (by omega)).trans Zk.2.1.1
  -- behind the rows: each guild's guesses
  have third : ∀ S1, tgX Z d h qs (iv (otB Z d h qs n wh wn sn (-1))) S0 S1 → wjX Z d h qs F 0 S1 → Gv (fX2_weigh_h92 5000 5000 (xtw S0) 20 0 S1) (fun r => r.1 = 0 ∧ tgX Z d h qs (iv (otB Z d h qs n wh wn sn (-1))) S0 r.2 ∧ wjX Z d h qs F (10 * tn1 Z) r.2) := by
    intro S1 t1 w1
    refine loopG (A := gS) (fun f g S => fX2_weigh_h92 5000 f (xtw S0) 20 (nI g) S) (fun g S => tgX Z d h qs (iv (otB Z d h qs n wh wn sn (-1))) S0 S ∧ wjX Z d h qs F (10 * g) S) _ (tn1 Z) ?_ ?_ (tn1 Z) 0 S1 5000 (by omega) ⟨t1, w1⟩ (by omega)
    · rintro f S ⟨i1, i2⟩
      refine ⟨(0, S), ?_, rfl, i1, i2⟩
      show fX2_weigh_b92 5000 _ (xtw S0) 20 (nI (tn1 Z)) S = _
      unfold fX2_weigh_b92
      rw [(xx S i1.1).1, if_pos (nI_le (Nat.le_refl _) (by omega))]
      rfl
    · rintro f g S hg ⟨i1, i2⟩
      have ho := x_others (x := nI g) Zk (C.sm i1.1) hk (X.sm hk.1 i1.1) i1.2.1
      rw [(xx S i1.1).2] at ho
      have hF0 : fX2_weigh_h92 5000 (f + 1) (xtw S0) 20 (nI g) S = if iv (otB Z d h qs n wh wn sn (nI g)) = 0 then fX2_weigh_h92 5000 f (xtw S0) 20 (nI (g + 1)) S else fX2_weigh_b115 5000 (fX2_weigh_h92 5000 f) (xtw S0) 20 (nI g) S := by
        show fX2_weigh_b92 5000 (fX2_weigh_h92 5000 f) (xtw S0) 20 (nI g) S = _
        unfold fX2_weigh_b92
        rw [(xx S i1.1).1, if_neg (nI_ge hg (by omega))]
        unfold fX2_weigh_b101
        rw [bnd_t (show fX2_doOthersSuit 5000 (xtw S0) (20 + 8) (nI g) S = _ from ho)]
        unfold fX2_weigh_b124
        rw [nI_1 g]
      refine Or.inr ?_
      cases hot : otB Z d h qs n wh wn sn (nI g) with
      | false =>
        refine ⟨S, ⟨i1, ?_⟩, ?_⟩
        · have no : ∀ m, m ≤ 10 → cntB F (10 * g + m) = cntB F (10 * g) := by
            intro m
            induction m with
            | zero => intro _; rfl
            | succ m ih =>
              intro hm
              show cntB F (10 * g + m) + (if F (10 * g + m) = true then 1 else 0) = _
              have : F (10 * g + m) = false := by
                rw [hF]
                unfold fitB
                rw [show (10 * g + m) / 10 = g by omega, hot, Bool.false_and, Bool.and_false]
              rw [this, ih (by omega)]
              rfl
          have e10 := no 10 (by omega)
          unfold wjX
          rw [show 10 * (g + 1) = 10 * g + 10 by omega, e10]
          exact i2
        · show fX2_weigh_h92 5000 (f + 1) (xtw S0) 20 (nI g) S = _
          rw [hF0, hot]
          rfl
      | true =>
        obtain ⟨S2, a1, a2, a3⟩ := x_tryGreeds hF Zk C K hk X h9 hg hot i1 i2
        refine ⟨S2, ⟨a2, a3⟩, ?_⟩
        show fX2_weigh_h92 5000 (f + 1) (xtw S0) 20 (nI g) S = _
        rw [hF0, hot]
        show fX2_weigh_b115 5000 (fX2_weigh_h92 5000 f) (xtw S0) 20 (nI g) S = _
        unfold fX2_weigh_b115
        rw [bnd_t a1]
        unfold fX2_weigh_b124
        rw [nI_1 g]
  have second : ∀ S1, xSame S0 S1 → wjX Z d h qs F 0 S1 → Gv (fX2_weigh_h37 5000 5000 (xtw S0) 20 0 S1) (fun r => r.1 = 0 ∧ tgX Z d h qs (iv (otB Z d h qs n wh wn sn (-1))) S0 r.2 ∧ wjX Z d h qs F (10 * tn1 Z) r.2) := by
    intro S1 t1 w1
    refine loopG (A := gS) (fun f g S => fX2_weigh_h37 5000 f (xtw S0) 20 (nI g) S) (fun g S => xSame S0 S ∧ rwX Z d h qs S g ∧ wjX Z d h qs F 0 S) _ (tn1 Z) ?_ ?_ (tn1 Z) 0 S1 5000 (by omega) ⟨t1, fun g q => absurd q (by omega), w1⟩ (by omega)
    · rintro f S ⟨i1, i2, i3⟩
      have ho := x_others (x := -1) Zk (C.sm i1) hk (X.sm hk.1 i1) i2
      rw [(xx S i1).2] at ho
      have k6 : ∀ i j, ¬ (i = 62 ∧ j = 5) → sU S 62 5 (iv (otB Z d h qs n wh wn sn (-1))) i j = S i j := fun i j q => by rw [sU_ap, if_neg q]
      have e : fX2_weigh_h37 5000 (f + 1) (xtw S0) 20 (nI (tn1 Z)) S = fX2_weigh_h92 5000 5000 (xtw S0) 20 0 (sU S 62 5 (iv (otB Z d h qs n wh wn sn (-1)))) := by
        show fX2_weigh_b37 5000 _ (xtw S0) 20 (nI (tn1 Z)) S = _
        unfold fX2_weigh_b37
        rw [(xx S i1).1, if_pos (nI_le (Nat.le_refl _) (by omega))]
        unfold fX2_weigh_b75
        dsimp only [lt]
        rw [bnd_t (show fX2_doOthersSuit 5000 (xtw S0) (20 + 8) (-1) S = _ from ho), chk_t (zb_iv)]
      show Gv (fX2_weigh_h37 5000 (f + 1) (xtw S0) 20 (nI (tn1 Z)) S) _
      rw [e]
      refine third _ ⟨i1.up rfl, fun g' a t b => ?_, ?_⟩ ⟨?_, ?_, fun t a b => ?_⟩
      · rw [k6 _ _ (by omega)]; exact i2 g' a t b
      · rw [sU_ap, if_pos ⟨rfl, rfl⟩]
      · rw [k6 _ _ (by omega)]; exact i3.1
      · rw [k6 _ _ (by omega)]; exact i3.2.1
      · rw [k6 _ _ (by omega)]; exact i3.2.2 t a b
    · rintro f g S hg ⟨i1, i2, i3⟩
      have C1 := C.sm i1
      have ht := (xx S i1).2
      obtain ⟨X1, b1, b2, b3⟩ := x_begin (N := 5000) (nd := 21) (Or.inl rfl) Zk C1 hg (by omega)
      rw [ht] at b1
      have x1 : xSame S0 X1 := i1.tr (xWk.same b3)
      have ht1 := (xx X1 x1).2
      have tx1 : tXz (xtw S0) Z X1 := by rw [← ht1]; exact (C.sm x1).1
      obtain ⟨X3, f1, f2, f3⟩ := x_follow (T1 := 63 + 1 + g) (by omega) (xN_g g (by omega)) Zk tx1 ht1 (K.1 g hg) (K.2.2 g hg) b2 h9
      have k3 : ∀ i j, xWk i j = false → i ≠ 63 + 1 + g → X3 i j = S i j := by
        intro i j a b
        rw [f3 i j (by show (xWk i j || i == 63 + 1 + g) = false; rw [a, beq_false_of_ne b]; rfl)]
        exact b3 i j a
      refine Or.inr ⟨X3, ⟨i1.tr (fun i j hij => k3 i j ?_ ?_), fun g' a t b => ?_, ?_, ?_, fun t a b => ?_⟩, ?_⟩
      · refine xWk_f ?_
        refine ⟨?_, ?_, ?_, ?_, ?_⟩ <;> intro q <;> rw [q] at hij <;> cases hij
      · intro q
        rcases (show g = 0 ∨ g = 1 ∨ g = 2 ∨ g = 3 ∨ g = 4 ∨ g = 5 by omega) with r | r | r | r | r | r <;> rw [q, r] at hij <;> cases hij
      · by_cases q : g' = g
        · rw [q]
          exact f2 t b
        · rw [k3 _ t (xWk_f (by omega)) (by omega)]
          exact i2 g' (by omega) t b
      · rw [k3 62 3 rfl (by omega)]; exact i3.1
      · rw [k3 62 4 rfl (by omega)]; exact i3.2.1
      · rw [k3 71 t rfl (by omega)]; exact i3.2.2 t a b
      · show fX2_weigh_b37 5000 (fX2_weigh_h37 5000 f) (xtw S0) 20 (nI g) S = _
        unfold fX2_weigh_b37
        rw [(xx S i1).1, if_neg (nI_ge hg (by omega))]
        unfold fX2_weigh_b46
        dsimp only [lt]
        rw [bnd_t (show fX10_begin 5000 (xtw S0) (20 + 1) (nI g) S = _ from b1), chk_t (inb_t (by omega) (by decide)), nI_clamp (n := g) (by omega)]
        dsimp only
        rw [bnd_t f1]
        dsimp only
        rw [nI_1 g]
  have first : ∀ S1, xSame S0 S1 → S1 62 3 = 0 → S1 62 4 = -1 → Gv (fX2_weigh_h13 5000 5000 (xtw S0) 20 0 S1) (fun r => r.1 = 0 ∧ tgX Z d h qs (iv (otB Z d h qs n wh wn sn (-1))) S0 r.2 ∧ wjX Z d h qs F (10 * tn1 Z) r.2) := by
    intro S1 t1 w1 w2
    refine loopG (A := gS) (fun f k S => fX2_weigh_h13 5000 f (xtw S0) 20 (nI k) S) (fun k S => xSame S0 S ∧ S 62 3 = 0 ∧ S 62 4 = -1 ∧ ∀ t, t < k → S 71 t = 0) _ 21 ?_ ?_ 21 0 S1 5000 (by omega) ⟨t1, w1, w2, fun g q => absurd q (by omega)⟩ (by omega)
    · rintro f S ⟨i1, i2, i3, i4⟩
      have e : fX2_weigh_h13 5000 (f + 1) (xtw S0) 20 (nI 21) S = fX2_weigh_h37 5000 5000 (xtw S0) 20 0 S := by
        show fX2_weigh_b13 5000 _ (xtw S0) 20 (nI 21) S = _
        unfold fX2_weigh_b13
        rw [if_pos (by decide)]
        rfl
      show Gv (fX2_weigh_h13 5000 (f + 1) (xtw S0) 20 (nI 21) S) _
      rw [e]
      exact second S i1 ⟨i2, i3, fun t a b => i4 t (by omega)⟩
    · rintro f k S hk' ⟨i1, i2, i3, i4⟩
      refine Or.inr ⟨sU S 71 k 0, ⟨i1.up rfl, ?_, ?_, fun t a => ?_⟩, ?_⟩
      · rw [sU_ne (by decide)]; exact i2
      · rw [sU_ne (by decide)]; exact i3
      · rw [sU_ap]
        by_cases q : t = k
        · rw [if_pos ⟨rfl, q⟩]
        · rw [if_neg (fun z => q z.2)]
          exact i4 t (by omega)
      · show fX2_weigh_b13 5000 (fX2_weigh_h13 5000 f) (xtw S0) 20 (nI k) S = _
        unfold fX2_weigh_b13
        rw [if_neg (show ¬ (20 : Int32) < nI k from nI_nlt (a := 20) (by omega) (by decide))]
        unfold fX2_weigh_b20
        dsimp only [lt]
        rw [chk_t (inb_t (by omega) (by decide)), nI_clamp (n := k) (by omega), nI_1 k]
  obtain ⟨⟨w, S'⟩, r1, r2, r3, r4⟩ := first (sU (sU S0 62 3 0) 62 4 (-1)) ((xSame.rf.up rfl).up rfl) (by rw [sU_ap, if_neg (by omega), sU_ap, if_pos ⟨rfl, rfl⟩]) (by rw [sU_ap, if_pos ⟨rfl, rfl⟩])
  dsimp only at r2 r3 r4
  subst r2
  refine ⟨S', ?_, r3.1, r3.2.2, r4⟩
  rw [x_weigh_0]
  exact r1
end
end

/-! part 79.seen -/
section
noncomputable def m5 (i j : Nat) : Bool := i == 42 || i == 43 || i == 51 || (i == 99 && (j == 44 || j == 45))
theorem m5_f {i j : Nat} (h : m5 i j = false) : i ≠ 42 ∧ i ≠ 43 ∧ i ≠ 51 ∧ ¬ (i = 99 ∧ (j = 44 ∨ j = 45)) := by
  unfold m5 at h
  simp only [Bool.or_eq_false_iff, Bool.and_eq_false_iff, beq_eq_false_iff_ne] at h
  omega
theorem m5.same {S S' : gS} (s : oSame m5 S S') : mSame S S' := by
  intro i j h
  refine s i j ?_
  cases hh : m5 i j with
  | false => rfl
  | true =>
    exfalso
    unfold m5 at hh
    simp only [Bool.or_eq_true, Bool.and_eq_true, beq_iff_eq] at hh
    rcases hh with ((r | r) | r) | ⟨r, r2 | r2⟩
    · rw [r] at h; cases h
    · rw [r] at h; cases h
    · rw [r] at h; cases h
    · rw [r, r2] at h; cases h
    · rw [r, r2] at h; cases h
noncomputable def mxN (wn : Nat → Nat) : Nat → Nat
  | 0 => 0
  | k + 1 => if mxN wn k < wn k then wn k else mxN wn k
theorem mxN_le {wn : Nat → Nat} : ∀ k, (∀ i, i < k → wn i ≤ 20) → mxN wn k ≤ 20 ∧ ∀ i, i < k → wn i ≤ mxN wn k := by
  intro k
  induction k with
  | zero => intro _; exact ⟨Nat.zero_le _, fun i h => absurd h (by omega)⟩
  | succ k ih =>
    intro h
    obtain ⟨a, b⟩ := ih (fun i hi => h i (by omega))
    have hk := h k (by omega)
    have e : mxN wn (k + 1) = if mxN wn k < wn k then wn k else mxN wn k := rfl
    have key : ∀ z, mxN wn k ≤ z → wn k ≤ z → ∀ i, i < k + 1 → wn i ≤ z := by
      intro z z1 z2 i hi
      by_cases q : i = k
      · rw [q]; exact z2
      · have := b i (by omega)
        omega
    by_cases q : mxN wn k < wn k
    · rw [if_pos q] at e
      rw [e]
      exact ⟨hk, key _ (by omega) (Nat.le_refl _)⟩
    · rw [if_neg q] at e
      rw [e]
      exact ⟨a, key _ (Nat.le_refl _) (by omega)⟩
section
variable {Z S : gS} {d : Int32} {h g n v : Nat} {e : Nat → Int32} {qs : Nat → qT} {wh wn : Nat → Nat} {sn : Nat → Int32}
theorem m_seen54 {t : Nat} {x1 : Int32} {r42 : Int32 → Int32 → Int32 → gS → Option (Int32 × gS)} (z6 : tn1 Z ≤ 6) (hk : seK Z n wh wn) (X : seM n wh wn sn S) (ht : t ≤ 20) : fX12_isAsSeen_b51 5000 r42 x1 1 (nI t) S = fX12_isAsSeen_b112 5000 r42 x1 (iv (alB (fun i => !(decide (wn i = t)) || decide (S 32 (wh i) = sn i)) n)) (nI t) S := by
  have k8 := hk.1
  have main : ∀ (m k f : Nat), k + m = n → m < f → fX12_isAsSeen_h54 5000 r42 f x1 (iv (alB (fun i => !(decide (wn i = t)) || decide (S 32 (wh i) = sn i)) k)) (nI t) (nI k) S = fX12_isAsSeen_b112 5000 r42 x1 (iv (alB (fun i => !(decide (wn i = t)) || decide (S 32 (wh i) = sn i)) n)) (nI t) S := by
    intro m
    induction m with
    | zero =>
      intro k f hkm hf
      obtain ⟨f, rfl⟩ : ∃ f', f = f' + 1 := ⟨f - 1, by omega⟩
      obtain rfl : k = n := by omega
      show fX12_isAsSeen_b54 5000 r42 _ x1 _ (nI t) (nI k) S = _
      unfold fX12_isAsSeen_b54
      rw [X.1, if_pos (nI_le (Nat.le_refl _) (by omega))]
    | succ m ih =>
      intro k f hkm hf
      obtain ⟨f, rfl⟩ : ∃ f', f = f' + 1 := ⟨f - 1, by omega⟩
      obtain ⟨x1', x2, x3⟩ := X.2 k (by omega)
      obtain ⟨y1, y2⟩ := hk.2 k (by omega)
      have hn := ih (k + 1) f (by omega) (by omega)
      have eA : alB (fun i => !(decide (wn i = t)) || decide (S 32 (wh i) = sn i)) (k + 1) = (alB (fun i => !(decide (wn i = t)) || decide (S 32 (wh i) = sn i)) k && (!(decide (wn k = t)) || decide (S 32 (wh k) = sn k))) := rfl
      rw [eA] at hn
      show fX12_isAsSeen_b54 5000 r42 (fX12_isAsSeen_h54 5000 r42 f) x1 _ (nI t) (nI k) S = _
      unfold fX12_isAsSeen_b54
      rw [X.1, if_neg (nI_ge (by omega) (by omega))]
      unfold fX12_isAsSeen_b63
      have b104 : fX12_isAsSeen_b104 5000 r42 (fX12_isAsSeen_h54 5000 r42 f) x1 (nI t) (nI k) S = fX12_isAsSeen_h54 5000 r42 f x1 (iv false) (nI t) (nI (k + 1)) S := by
        unfold fX12_isAsSeen_b104 fX12_isAsSeen_b105
        rw [nI_1 k]
        rfl
      have b100 : fX12_isAsSeen_b100 5000 r42 (fX12_isAsSeen_h54 5000 r42 f) x1 (nI t) (nI k) S = fX12_isAsSeen_h54 5000 r42 f x1 (iv true) (nI t) (nI (k + 1)) S := by
        unfold fX12_isAsSeen_b100 fX12_isAsSeen_b105
        rw [nI_1 k]
        rfl
      cases hb : alB (fun i => !(decide (wn i = t)) || decide (S 32 (wh i) = sn i)) k with
      | false =>
        rw [hb, Bool.false_and] at hn
        show fX12_isAsSeen_b104 5000 r42 (fX12_isAsSeen_h54 5000 r42 f) x1 (nI t) (nI k) S = _
        rw [b104]
        exact hn
      | true =>
        rw [hb, Bool.true_and] at hn
        show fX12_isAsSeen_b67 5000 r42 (fX12_isAsSeen_h54 5000 r42 f) x1 (nI t) (nI k) S = _
        unfold fX12_isAsSeen_b67
        rw [chk_t (inb_t (by omega) (by decide)), nI_clamp (n := k) (by omega), x2]
        by_cases q : wn k = t
        · rw [decide_eq_true q] at hn
          rw [q, if_pos rfl]
          unfold fX12_isAsSeen_b78
          rw [chk_t (inb_t (by omega) (by decide)), nI_clamp (n := k) (by omega), x1', chk_t (inb_t (by omega) (by decide)), chk_t (inb_t (by omega) (by decide)), nI_clamp (n := wh k) (by omega), x3]
          by_cases q2 : S 32 (wh k) = sn k
          · rw [decide_eq_true q2] at hn
            rw [if_pos q2, b100]
            exact hn
          · rw [decide_eq_false q2] at hn
            rw [if_neg q2, b104]
            exact hn
        · rw [decide_eq_false q] at hn
          rw [if_neg (fun z => q ((nI_eq (by omega) (by omega)).mp z)), b100]
          exact hn
  exact main n 0 5000 (by omega) (by omega)
theorem m_isAsSeen (Zk : tOK Z) (K : qsH Z qs) (M : mSit Z S h d e qs) (w41 : S 99 41 = -1) (h9 : h ≤ 999) (hk : seK Z n wh wn) (X : seM n wh wn sn S) : ∃ S', fX12_isAsSeen 5000 S = some (iv (asB Z d h qs n wh wn sn e), S') ∧ oSame m5 S S' := by
  have z6 := Zk.2.1.2
  have k8 := hk.1
  obtain ⟨mx20, mxle⟩ := mxN_le (wn := wn) n (fun i hi => (hk.2 i hi).2)
  obtain ⟨S2, p1, p2, p3⟩ := q_pk (N := 5000) (S1 := S) (nd := 51) (Or.inr rfl) (by decide)
  have s2 : mSame S S2 := fun i j hij => p2 i j (fun q => by rw [q] at hij; cases hij)
  have M2 := M.on s2
  have w2 : S2 99 41 = -1 := (p2 99 41 (by decide)).trans w41
  have X2 : seM n wh wn sn S2 := ⟨(p2 99 40 (by decide)).trans X.1, fun i hi => by
    obtain ⟨a, b, c⟩ := X.2 i hi
    exact ⟨(p2 48 i (by decide)).trans a, (p2 49 i (by decide)).trans b, (p2 50 i (by decide)).trans c⟩⟩
  have bT : ∀ t, alB (fun i => !(decide (wn i < t)) || decide (sq Z d h qs (e (wh i)) (wh i) (wn i) = sn i)) n = true ↔ ∀ i, i < n → wn i < t → sq Z d h qs (e (wh i)) (wh i) (wn i) = sn i := by
    intro t
    rw [alB_t]
    refine ⟨fun a i hi hl => ?_, fun a i hi => ?_⟩
    · have := a i hi
      rw [decide_eq_true hl] at this
      exact of_decide_eq_true this
    · by_cases hl : wn i < t
      · rw [decide_eq_true (a i hi hl), Bool.or_true]
      · rw [decide_eq_false hl]; rfl
  have aT : asB Z d h qs n wh wn sn e = true ↔ ∀ i, i < n → sq Z d h qs (e (wh i)) (wh i) (wn i) = sn i := by
    unfold asB
    rw [alB_t]
    exact ⟨fun a i hi => of_decide_eq_true (a i hi), fun a i hi => decide_eq_true (a i hi)⟩
  have fin : ∀ (b : Bool) (S3 : gS), b = asB Z d h qs n wh wn sn e → oSame mHo S2 S3 → Gv (fX12_isAsSeen_b122 5000 (iv b) S3) (fun r => r.1 = iv (asB Z d h qs n wh wn sn e) ∧ oSame m5 S r.2) := by
    intro b S3 hb s3
    obtain ⟨S4, u1, u2⟩ := p3 S3 (fun j => s3 51 j rfl)
    refine ⟨(iv b, S4), ?_, by rw [hb], fun i j hij => ?_⟩
    · unfold fX12_isAsSeen_b122
      rw [bnd_t u1, chk_t zb_iv]
    · show S4 i j = S i j
      rw [u2 i j]
      obtain ⟨m1, m2, m3, m4⟩ := m5_f hij
      by_cases q : mPk i j = true
      · rw [if_pos q]
      · rw [if_neg q, s3 i j ?_, p2 i j m3]
        rw [mPk_t] at q
        cases hh : mHo i j with
        | false => rfl
        | true =>
          exfalso
          unfold mHo at hh
          simp only [Bool.or_eq_true, Bool.and_eq_true, beq_iff_eq, decide_eq_true_iff] at hh
          omega
  have outer : Gv (fX12_isAsSeen_h42 5000 5000 (nI (mxN wn n)) 1 0 S2) (fun r => r.1 = iv (asB Z d h qs n wh wn sn e) ∧ oSame m5 S r.2) := by
    have e0 : alB (fun i => !(decide (wn i < 0)) || decide (sq Z d h qs (e (wh i)) (wh i) (wn i) = sn i)) n = true := (bT 0).mpr (fun i hi hl => absurd hl (by omega))
    rw [show (1 : Int32) = iv (alB (fun i => !(decide (wn i < 0)) || decide (sq Z d h qs (e (wh i)) (wh i) (wn i) = sn i)) n) by rw [e0]; rfl]
    refine loopG (A := gS) (fun f t S3 => fX12_isAsSeen_h42 5000 f (nI (mxN wn n)) (iv (alB (fun i => !(decide (wn i < t)) || decide (sq Z d h qs (e (wh i)) (wh i) (wn i) = sn i)) n)) (nI t) S3) (fun t S3 => mSit Z S3 (h + t) d e (fun g => trj Z (e g) d (wetZ Z) h (qs g) t) ∧ oSame mHo S2 S3) _ (mxN wn n + 1) ?_ ?_ (mxN wn n + 1) 0 S2 5000 (by omega) ⟨M2, oSame.rf⟩ (by omega)
    · rintro f S3 ⟨i1, i2⟩
      show Gv (fX12_isAsSeen_b42 5000 _ _ _ (nI (mxN wn n + 1)) S3) _
      unfold fX12_isAsSeen_b42
      rw [if_pos (nI_lt (by omega) (by omega))]
      refine fin _ S3 ?_ i2
      rw [Bool.eq_iff_iff, bT, aT]
      exact ⟨fun a i hi => a i hi (by have := mxle i hi; omega), fun a i hi _ => a i hi⟩
    · rintro f t S3 ht ⟨i1, i2⟩
      have hF : fX12_isAsSeen_h42 5000 (f + 1) (nI (mxN wn n)) (iv (alB (fun i => !(decide (wn i < t)) || decide (sq Z d h qs (e (wh i)) (wh i) (wn i) = sn i)) n)) (nI t) S3 = fX12_isAsSeen_b47 5000 (fX12_isAsSeen_h42 5000 f) (nI (mxN wn n)) (iv (alB (fun i => !(decide (wn i < t)) || decide (sq Z d h qs (e (wh i)) (wh i) (wn i) = sn i)) n)) (nI t) S3 := by
        show fX12_isAsSeen_b42 5000 (fX12_isAsSeen_h42 5000 f) _ _ (nI t) S3 = _
        unfold fX12_isAsSeen_b42
        rw [if_neg (nI_nlt (by omega) (by omega))]
      have hb := bT t
      cases hc : alB (fun i => !(decide (wn i < t)) || decide (sq Z d h qs (e (wh i)) (wh i) (wn i) = sn i)) n with
      | false =>
        refine Or.inl ?_
        rw [hc] at hF
        show Gv (fX12_isAsSeen_h42 5000 (f + 1) (nI (mxN wn n)) (iv false) (nI t) S3) _
        rw [hF]
        show Gv (fX12_isAsSeen_b122 5000 (iv false) S3) _
        refine fin false S3 ?_ i2
        cases ha : asB Z d h qs n wh wn sn e with
        | false => rfl
        | true =>
          exfalso
          have := hb.mpr (fun i hi _ => aT.mp ha i hi)
          rw [hc] at this
          cases this
      | true =>
        rw [hc] at hb
        have X3 : seM n wh wn sn S3 := ⟨(i2 99 40 rfl).trans X2.1, fun i hi => by
          obtain ⟨a, b, c⟩ := X2.2 i hi
          exact ⟨(i2 48 i rfl).trans a, (i2 49 i rfl).trans b, (i2 50 i rfl).trans c⟩⟩
        have h54 := m_seen54 (x1 := nI (mxN wn n)) (r42 := fX12_isAsSeen_h42 5000 f) (t := t) z6 hk X3 (by omega)
        obtain ⟨S4, r1, r2, -, r4⟩ := m_step1 (N := 5000) Zk (K.tr (h := h) (d := d) (wf := wetZ Z) (e := e) t) (by omega) (by decide) i1 ((i2 99 41 rfl).trans w2)
        refine Or.inr ⟨S4, ⟨r2, i2.tr r4⟩, ?_⟩
        rw [hc] at hF
        show fX12_isAsSeen_h42 5000 (f + 1) (nI (mxN wn n)) (iv true) (nI t) S3 = _
        rw [hF]
        show fX12_isAsSeen_b51 5000 (fX12_isAsSeen_h42 5000 f) (nI (mxN wn n)) 1 (nI t) S3 = _
        rw [h54]
        unfold fX12_isAsSeen_b112
        rw [bnd_t r1, nI_1 t]
        have eB : alB (fun i => !(decide (wn i = t)) || decide (S3 32 (wh i) = sn i)) n = alB (fun i => !(decide (wn i < t + 1)) || decide (sq Z d h qs (e (wh i)) (wh i) (wn i) = sn i)) n := by
          rw [Bool.eq_iff_iff, bT, alB_t]
          have hb' := hb.mp rfl
          refine ⟨fun a i hi hl => ?_, fun a i hi => ?_⟩
          · by_cases q : wn i = t
            · have := a i hi
              rw [decide_eq_true q] at this
              have := of_decide_eq_true this
              rw [(i1.2.2.2.2 (wh i) (hk.2 i hi).1).1, ← q] at this
              exact this
            · exact hb' i hi (by omega)
          · by_cases q : wn i = t
            · have := a i hi (by omega)
              rw [decide_eq_true q, (i1.2.2.2.2 (wh i) (hk.2 i hi).1).1, ← q]
              exact decide_eq_true this
            · rw [decide_eq_false q]; rfl
        rw [eB]
  have inner : ∀ (m k f : Nat), k + m = n → m < f → fX12_isAsSeen_h13 5000 f (nI (mxN wn k)) (nI k) S2 = fX12_isAsSeen_h42 5000 5000 (nI (mxN wn n)) 1 0 S2 := by
    intro m
    induction m with
    | zero =>
      intro k f hkm hf
      obtain ⟨f, rfl⟩ : ∃ f', f = f' + 1 := ⟨f - 1, by omega⟩
      obtain rfl : k = n := by omega
      show fX12_isAsSeen_b13 5000 _ _ (nI k) S2 = _
      unfold fX12_isAsSeen_b13
      rw [X2.1, if_pos (nI_le (Nat.le_refl _) (by omega))]
      rfl
    | succ m ih =>
      intro k f hkm hf
      obtain ⟨f, rfl⟩ : ∃ f', f = f' + 1 := ⟨f - 1, by omega⟩
      obtain ⟨x1', x2, x3⟩ := X2.2 k (by omega)
      obtain ⟨y1, y2⟩ := hk.2 k (by omega)
      obtain ⟨l1, l2⟩ := mxN_le (wn := wn) k (fun i hi => (hk.2 i (by omega)).2)
      rw [← ih (k + 1) f (by omega) (by omega)]
      show fX12_isAsSeen_b13 5000 (fX12_isAsSeen_h13 5000 f) _ (nI k) S2 = fX12_isAsSeen_h13 5000 f (nI (if mxN wn k < wn k then wn k else mxN wn k)) (nI (k + 1)) S2
      unfold fX12_isAsSeen_b13
      rw [X2.1, if_neg (nI_ge (by omega) (by omega))]
      unfold fX12_isAsSeen_b21
      rw [chk_t (inb_t (by omega) (by decide)), nI_clamp (n := k) (by omega), x2, nI_1 k]
      by_cases q : mxN wn k < wn k
      · rw [if_pos q, if_pos (nI_lt q (by omega))]
      · rw [if_neg q, if_neg (nI_nlt (by omega) (by omega))]
  obtain ⟨⟨b, S'⟩, r1, r2, r3⟩ := outer
  dsimp only at r2 r3
  refine ⟨S', ?_, r3⟩
  unfold fX12_isAsSeen fX12_isAsSeen_b0
  rw [bnd_t p1, ← r2]
  exact (inner n 0 5000 (by omega) (by omega)).trans r1
end
end

/-! part 80.fits -/
section
theorem mSit.gr {Z S : gS} {h g : Nat} {d x : Int32} {e : Nat → Int32} {qs : Nat → qT} (M : mSit Z S h d e qs) : mSit Z (sU S 18 g x) h d (upE e g x) qs := by
  obtain ⟨m1, m2, m3, m4, m5⟩ := M
  refine ⟨m1.on (fun i j h1 h2 => sU_n (by omega)), fun g' hg' => ?_, by rw [sU_n (by omega)]; exact m3, by rw [sU_n (by omega)]; exact m4, fun g' hg' => ?_⟩
  · rw [sU_ap]
    unfold upE
    by_cases q : g' = g
    · rw [if_pos ⟨rfl, q⟩, if_pos q]
    · rw [if_neg (fun z => q z.2), if_neg q]
      exact m2 g' hg'
  · rw [sU_ne (by decide), sU_ne (by decide), sU_ne (by decide), sU_ne (by decide)]
    exact m5 g' hg'
noncomputable def m6 (i j : Nat) : Bool := m5 i j || i == 52 || (i == 99 && j == 54)
theorem m6_f {i j : Nat} (h : m6 i j = false) : m5 i j = false ∧ i ≠ 52 ∧ ¬ (i = 99 ∧ j = 54) := by
  unfold m6 at h
  rw [Bool.or_eq_false_iff, Bool.or_eq_false_iff] at h
  refine ⟨h.1.1, fun q => ?_, fun q => ?_⟩
  · have := h.1.2
    rw [q] at this
    cases this
  · have := h.2
    rw [q.1, q.2] at this
    cases this
theorem m6_n {i j : Nat} (h : mScr i j = false) : m6 i j = false := by
  cases hh : m6 i j with
  | false => rfl
  | true =>
    exfalso
    unfold m6 m5 at hh
    simp only [Bool.or_eq_true, Bool.and_eq_true, beq_iff_eq] at hh
    rcases hh with ((((r | r) | r) | ⟨r, r2 | r2⟩) | r) | ⟨r, r2⟩
    · rw [r] at h; cases h
    · rw [r] at h; cases h
    · rw [r] at h; cases h
    · rw [r, r2] at h; cases h
    · rw [r, r2] at h; cases h
    · rw [r] at h; cases h
    · rw [r, r2] at h; cases h
theorem m6.same {S S' : gS} (s : oSame m6 S S') : mSame S S' := fun i j h => s i j (m6_n h)
section
variable {Z S S1 : gS} {d : Int32} {h g n v : Nat} {qs : Nat → qT} {wh wn : Nat → Nat} {sn : Nat → Int32}
def tfM (F : Nat → Bool) (j : Nat) (S : gS) : Prop := S 99 54 = nI (cntB F j) ∧ ∀ i, i < cntB F j → S 52 i = nI (fI F i)
/-- all but the greed of g is as it was -/
def gsM (g : Nat) (S1 S : gS) : Prop := ∀ i j, m6 i j = false → ¬ (i = 18 ∧ j = g) → S i j = S1 i j
theorem gsM.sit {x : Int32} {S1 S : gS} (s : gsM g S1 S) (M : mSit Z S1 h d (Z 5) qs) : mSit Z (sU S 18 g x) h d (upE (Z 5) g x) qs := by
  refine (M.gr (g := g) (x := x)).on (fun i j hij => ?_)
  rw [sU_ap, sU_ap]
  by_cases q : i = 18 ∧ j = g
  · rw [if_pos q, if_pos q]
  · rw [if_neg q, if_neg q]
    exact s i j (m6_n hij) q
theorem m_fits26 {F : Nat → Bool} {r7 : Int32 → gS → Option (Int32 × gS)} (hF : F = fitB Z d h qs n wh wn sn) (Zk : tOK Z) (M : mSit Z S1 h d (Z 5) qs) (K : qsOK Z (Z 5) qs) (w41 : S1 99 41 = -1) (hk : seK Z n wh wn) (X : seM n wh wn sn S1) (h9 : h ≤ 999) (hg : g < tn1 Z) (s : oSame m6 S1 S) (tf : tfM F (10 * g) S) : ∃ S', oSame m6 S1 S' ∧ tfM F (10 * (g + 1)) S' ∧ fX12_tellFits_b17 5000 r7 (nI g) S = r7 (nI (g + 1)) S' := by
  have z6 := Zk.2.1.2
  have g18 : S1 18 g = Z 5 g := M.2.1 g hg
  have main : ∀ (m v f : Nat) (S : gS), v + m = 10 → m < f → gsM g S1 S → tfM F (10 * g + v) S → ∃ S', oSame m6 S1 S' ∧ tfM F (10 * (g + 1)) S' ∧ fX12_tellFits_h26 5000 r7 f (nI g) (Z 5 g) (nI v) S = r7 (nI (g + 1)) S' := by
    intro m
    induction m with
    | zero =>
      intro v f S hv hf s tf
      obtain ⟨f, rfl⟩ : ∃ f', f = f' + 1 := ⟨f - 1, by omega⟩
      obtain rfl : v = 10 := by omega
      refine ⟨sU S 18 g (Z 5 g), fun i j hij => ?_, ⟨?_, fun i hi => ?_⟩, ?_⟩
      · rw [sU_ap]
        by_cases q : i = 18 ∧ j = g
        · rw [if_pos q, q.1, q.2]; exact g18.symm
        · rw [if_neg q]; exact s i j hij q
      · rw [sU_ne (by decide)]; exact tf.1
      · rw [sU_ne (by decide)]; exact tf.2 i hi
      · show fX12_tellFits_b26 5000 r7 _ (nI g) (Z 5 g) (nI 10) S = _
        unfold fX12_tellFits_b26
        rw [if_pos (by decide)]
        unfold fX12_tellFits_b85
        dsimp only [lt]
        rw [chk_t (inb_t (by omega) (by decide)), nI_clamp (n := g) (by omega), nI_1 g]
    | succ m ih =>
      intro v f S hv hf s tf
      obtain ⟨f, rfl⟩ : ∃ f', f = f' + 1 := ⟨f - 1, by omega⟩
      obtain ⟨S2, hS2⟩ : ∃ z, z = sU S 18 g (nI v) := ⟨_, rfl⟩
      have M2 : mSit Z S2 h d (upE (Z 5) g (nI v)) qs := by rw [hS2]; exact s.sit M
      have s2 : gsM g S1 S2 := fun i j a b => by rw [hS2, sU_n b]; exact s i j a b
      have tf2 : tfM F (10 * g + v) S2 := by
        rw [hS2]
        refine ⟨?_, fun i hi => ?_⟩
        · rw [sU_ne (by decide)]; exact tf.1
        · rw [sU_ne (by decide)]; exact tf.2 i hi
      have c60 := cntB_le (c := F) (10 * g + v)
      have eC : cntB F (10 * g + (v + 1)) = cntB F (10 * g + v) + if F (10 * g + v) = true then 1 else 0 := rfl
      have eF : F (10 * g + v) = (!(decide (nI v = Z 5 g)) && asB Z d h qs n wh wn sn (upE (Z 5) g (nI v))) := by
        rw [hF, asB_one Zk hg hk]
        unfold fitB
        rw [show (10 * g + v) / 10 = g by omega, show (10 * g + v) % 10 = v by omega]
      have hF0 : fX12_tellFits_h26 5000 r7 (f + 1) (nI g) (Z 5 g) (nI v) S = if nI v = Z 5 g then fX12_tellFits_h26 5000 r7 f (nI g) (Z 5 g) (nI (v + 1)) S2 else fX12_tellFits_b44 5000 r7 (fX12_tellFits_h26 5000 r7 f) (nI g) (Z 5 g) (nI v) S2 := by
        show fX12_tellFits_b26 5000 r7 (fX12_tellFits_h26 5000 r7 f) (nI g) (Z 5 g) (nI v) S = _
        unfold fX12_tellFits_b26
        rw [if_neg (show ¬ (9 : Int32) < nI v from nI_nlt (a := 9) (by omega) (by decide))]
        unfold fX12_tellFits_b32
        dsimp only [lt]
        rw [chk_t (inb_t (by omega) (by decide)), nI_clamp (n := g) (by omega), ← hS2]
        unfold fX12_tellFits_b79
        rw [nI_1 v]
      have b79 : ∀ S', fX12_tellFits_b79 5000 r7 (fX12_tellFits_h26 5000 r7 f) (nI g) (Z 5 g) (nI v) S' = fX12_tellFits_h26 5000 r7 f (nI g) (Z 5 g) (nI (v + 1)) S' := by
        intro S'
        unfold fX12_tellFits_b79
        rw [nI_1 v]
      have stay : ∀ S', F (10 * g + v) = false → tfM F (10 * g + v) S' → tfM F (10 * g + (v + 1)) S' := by
        intro S' a b
        rw [if_neg (by rw [a]; decide)] at eC
        unfold tfM
        rw [eC]
        exact b
      by_cases hq : nI v = Z 5 g
      · rw [decide_eq_true hq] at eF
        rw [hF0, if_pos hq]
        exact ih (v + 1) f S2 (by omega) (by omega) s2 (stay S2 eF tf2)
      · rw [decide_eq_false hq] at eF
        have eF : F (10 * g + v) = asB Z d h qs n wh wn sn (upE (Z 5) g (nI v)) := eF
        have X2 : seM n wh wn sn S2 := ⟨(s2 99 40 rfl (by omega)).trans X.1, fun i hi => by
          obtain ⟨a, b, c⟩ := X.2 i hi
          exact ⟨(s2 48 i rfl (by omega)).trans a, (s2 49 i rfl (by omega)).trans b, (s2 50 i rfl (by omega)).trans c⟩⟩
        obtain ⟨S3, a1, a2⟩ := m_isAsSeen Zk K.h M2 ((s2 99 41 rfl (by omega)).trans w41) h9 hk X2
        have s3 : gsM g S1 S3 := fun i j a b => (a2 i j (m6_f a).1).trans (s2 i j a b)
        have tf3 : tfM F (10 * g + v) S3 := ⟨(a2 99 54 rfl).trans tf2.1, fun i hi => (a2 52 i rfl).trans (tf2.2 i hi)⟩
        have hF1 : fX12_tellFits_h26 5000 r7 (f + 1) (nI g) (Z 5 g) (nI v) S = if iv (F (10 * g + v)) = 0 then fX12_tellFits_h26 5000 r7 f (nI g) (Z 5 g) (nI (v + 1)) S3 else fX12_tellFits_b54 5000 r7 (fX12_tellFits_h26 5000 r7 f) (nI g) (Z 5 g) (nI v) S3 := by
          rw [hF0, if_neg hq]
          unfold fX12_tellFits_b44
          rw [bnd_t a1, eF]
          unfold fX12_tellFits_b51
          rw [b79]
        cases hs : F (10 * g + v) with
        | false =>
          rw [hF1, hs]
          exact ih (v + 1) f S3 (by omega) (by omega) s3 (stay S3 hs tf3)
        | true =>
          rw [if_pos hs] at eC
          have hat : fI F (cntB F (10 * g + v)) = 10 * g + v := fI_at (by omega) hs
          rw [hF1, hs]
          have b54 : fX12_tellFits_b54 5000 r7 (fX12_tellFits_h26 5000 r7 f) (nI g) (Z 5 g) (nI v) S3 = fX12_tellFits_h26 5000 r7 f (nI g) (Z 5 g) (nI (v + 1)) (sU (sU S3 52 (cntB F (10 * g + v)) (nI (10 * g + v))) 99 54 (nI (cntB F (10 * g + v) + 1))) := by
            unfold fX12_tellFits_b54
            dsimp only [lt]
            rw [tf3.1, chk_t (inb_t (by omega) (by decide)), nI_clamp (n := cntB F (10 * g + v)) (by omega), show (10 : Int32) = nI 10 from rfl, pk_mul, nI_add, sU_ne (by decide), tf3.1, nI_1 (cntB F (10 * g + v)), b79]
          show ∃ S', _ ∧ _ ∧ fX12_tellFits_b54 5000 r7 (fX12_tellFits_h26 5000 r7 f) (nI g) (Z 5 g) (nI v) S3 = _
          rw [b54]
          refine ih (v + 1) f _ (by omega) (by omega) (fun i j a b => ?_) ⟨?_, fun i hi => ?_⟩
          · have := m6_f a
            rw [sU_n (by omega), sU_n (by omega)]
            exact s3 i j a b
          · rw [sU_ap, if_pos ⟨rfl, rfl⟩, eC]
          · rw [sU_ne (by decide), sU_ap]
            by_cases q : i = cntB F (10 * g + v)
            · rw [if_pos ⟨rfl, q⟩, q, hat]
            · rw [if_neg (fun z => q z.2)]
              exact tf3.2 i (by omega)
  have e : fX12_tellFits_b17 5000 r7 (nI g) S = fX12_tellFits_h26 5000 r7 5000 (nI g) (Z 5 g) 0 S := by
    unfold fX12_tellFits_b17
    rw [chk_t (inb_t (by omega) (by decide)), nI_clamp (n := g) (by omega), s 18 g rfl, g18]
  rw [e]
  exact main 10 0 5000 S (by omega) (by omega) (fun i j a _ => s i j a) tf
theorem m_tellFits {F : Nat → Bool} (hF : F = fitB Z d h qs n wh wn sn) (Zk : tOK Z) (M : mSit Z S1 h d (Z 5) qs) (K : qsOK Z (Z 5) qs) (w41 : S1 99 41 = -1) (hk : seK Z n wh wn) (X : seM n wh wn sn S1) (h9 : h ≤ 999) : ∃ S', fX12_tellFits 5000 S1 = some (0, S') ∧ oSame m6 S1 S' ∧ tfM F (10 * tn1 Z) S' := by
  have z6 := Zk.2.1.2
  have main : ∀ (m g f : Nat) (S : gS), g + m = tn1 Z → m < f → oSame m6 S1 S → tfM F (10 * g) S → ∃ S', fX12_tellFits_h7 5000 f (nI g) S = some (0, S') ∧ oSame m6 S1 S' ∧ tfM F (10 * tn1 Z) S' := by
    intro m
    induction m with
    | zero =>
      intro g f S hg hf s tf
      obtain ⟨f, rfl⟩ : ∃ f', f = f' + 1 := ⟨f - 1, by omega⟩
      obtain rfl : g = tn1 Z := by omega
      refine ⟨S, ?_, s, tf⟩
      show fX12_tellFits_b7 5000 _ (nI (tn1 Z)) S = _
      unfold fX12_tellFits_b7
      rw [s 5 1 rfl, show S1 5 1 = nI (tn1 Z) from M.1.2.1, if_pos (nI_le (Nat.le_refl _) (by omega))]
      rfl
    | succ m ih =>
      intro g f S hg hf s tf
      obtain ⟨f, rfl⟩ : ∃ f', f = f' + 1 := ⟨f - 1, by omega⟩
      obtain ⟨S2, a1, a2, a3⟩ := m_fits26 (r7 := fX12_tellFits_h7 5000 f) hF Zk M K w41 hk X h9 (by omega) s tf
      obtain ⟨S', b1, b2, b3⟩ := ih (g + 1) f S2 (by omega) (by omega) a1 a2
      refine ⟨S', ?_, b2, b3⟩
      show fX12_tellFits_b7 5000 (fX12_tellFits_h7 5000 f) (nI g) S = _
      unfold fX12_tellFits_b7
      rw [s 5 1 rfl, show S1 5 1 = nI (tn1 Z) from M.1.2.1, if_neg (nI_ge (by omega) (by omega)), a3]
      exact b1
  exact main (tn1 Z) 0 5000 (sU S1 99 54 0) (by omega) (by omega) (oSame.rf.up rfl) ⟨by rw [sU_ap, if_pos ⟨rfl, rfl⟩]; rfl, fun i hi => absurd hi (Nat.not_lt_zero i)⟩
end
end
