section
variable {Z S S0 : gS} {d : Int32} {h g n v : Nat} {qs : Nat → qT} {wh wn : Nat → Nat} {sn : Nat → Int32}
/-- what the class knows behind the first j guesses -/
def wjX (Z : gS) (d : Int32) (h : Nat) (qs : Nat → qT) (F : Nat → Bool) (j : Nat) (S : gS) : Prop := S 62 3 = nI (cntB F j) ∧ S 62 4 = (if cntB F j = 0 then -1 else nI (fI F 0)) ∧ ∀ t, 1 ≤ t → t ≤ 20 → S 71 t = nI (orN (fun i => wsN Z d h qs (fI F i) t) (cntB F j))
theorem seX.sm {S S' : gS} (X : seX n wh wn sn S) (hn : n ≤ 8) (s : xSame S S') : seX n wh wn sn S' := by
  refine ⟨(s 28 3 rfl).trans X.1, fun i hi => ?_⟩
  obtain ⟨a, b, c⟩ := X.2 i hi
  exact ⟨(s 29 i rfl).trans a, (s 30 i rfl).trans b, (s 31 i rfl).trans c⟩
/-- what stays while one guess is tried -/
def tgX (Z : gS) (d : Int32) (h : Nat) (qs : Nat → qT) (al : Int32) (S0 S : gS) : Prop := xSame S0 S ∧ rwX Z d h qs S (tn1 Z) ∧ S 62 5 = al
theorem x_tryGreeds {al : Int32} {F : Nat → Bool} (hF : F = fitB Z d h qs n wh wn sn) (Zk : tOK Z) (C : cSit 21 Z S0 h d qs) (K : qsOK Z (Z 5) qs) (hk : seK Z n wh wn) (X : seX n wh wn sn S0) (h9 : h ≤ 999) (hg : g < tn1 Z) (ho : otB Z d h qs n wh wn sn (nI g) = true) (tg : tgX Z d h qs al S0 S) (wj : wjX Z d h qs F (10 * g) S) : ∃ S', fX2_tryGreeds 5000 (xtw S0) 20 (nI g) S = some (0, S') ∧ tgX Z d h qs al S0 S' ∧ wjX Z d h qs F (10 * (g + 1)) S' := by
  have z6 := Zk.2.1.2
  have main : Gv (fX2_tryGreeds_h3 5000 5000 (xtw S0) 20 (nI g) 0 S) (fun r => r.1 = 0 ∧ tgX Z d h qs al S0 r.2 ∧ wjX Z d h qs F (10 * g + 10) r.2) := by
    refine loopG (A := gS) (fun f k S1 => fX2_tryGreeds_h3 5000 f (xtw S0) 20 (nI g) (nI k) S1) (fun k S1 => tgX Z d h qs al S0 S1 ∧ wjX Z d h qs F (10 * g + k) S1) _ 10 ?_ ?_ 10 0 S 5000 (by omega) ⟨tg, wj⟩ (by omega)
    · rintro f S1 ⟨i1, i2⟩
      refine ⟨(0, S1), ?_, rfl, i1, i2⟩
      show fX2_tryGreeds_b3 5000 _ (xtw S0) 20 (nI g) (nI 10) S1 = _
      unfold fX2_tryGreeds_b3
      rw [if_pos (by decide)]
      rfl
    · rintro f v S1 hv ⟨⟨i1, i2, i3⟩, j1, j2, j3⟩
      have C1 := C.sm i1
      have ht : xtw S1 = xtw S0 := by unfold xtw; rw [i1 0 7 rfl]
      have hTc := xtw_cases (S := S0)
      have c60 := cntB_le (c := F) (10 * g + v)
      have eF : F (10 * g + v) = (!(decide (nI v = Z 5 g)) && suB n wh wn sn (sq Z d h qs (nI v) g) g) := by
        rw [hF]
        unfold fitB
        rw [show (10 * g + v) / 10 = g by omega, show (10 * g + v) % 10 = v by omega, ho, Bool.true_and]
      have eC : cntB F (10 * g + (v + 1)) = cntB F (10 * g + v) + if F (10 * g + v) = true then 1 else 0 := rfl
      refine Or.inr ?_
      have hF0 : fX2_tryGreeds_h3 5000 (f + 1) (xtw S0) 20 (nI g) (nI v) S1 = if nI v = Z 5 g then fX2_tryGreeds_h3 5000 f (xtw S0) 20 (nI g) (nI (v + 1)) S1 else fX2_tryGreeds_b22 5000 (fX2_tryGreeds_h3 5000 f) (xtw S0) 20 (nI g) (nI v) S1 := by
        show fX2_tryGreeds_b3 5000 (fX2_tryGreeds_h3 5000 f) (xtw S0) 20 (nI g) (nI v) S1 = _
        unfold fX2_tryGreeds_b3
        rw [if_neg (show ¬ (9 : Int32) < nI v from nI_nlt (a := 9) (by omega) (by decide))]
        unfold fX2_tryGreeds_b10
        rw [chk_t (inb_t (by omega) (by decide)), nI_clamp (n := g) (by omega), ← ht]
        simp only [C1.1 5 g (by omega) (by omega)]
        unfold fX2_tryGreeds_b108
        rw [nI_1 v]
      have b108 : ∀ S', fX2_tryGreeds_b108 5000 (fX2_tryGreeds_h3 5000 f) (xtw S0) 20 (nI g) (nI v) S' = fX2_tryGreeds_h3 5000 f (xtw S0) 20 (nI g) (nI (v + 1)) S' := by
        intro S'
        unfold fX2_tryGreeds_b108
        rw [nI_1 v]
      by_cases hq : nI v = Z 5 g
      · rw [decide_eq_true hq] at eF
        have eF : F (10 * g + v) = false := eF
        rw [if_neg (by rw [eF]; decide)] at eC
        refine ⟨S1, ⟨⟨i1, i2, i3⟩, ?_⟩, ?_⟩
        · unfold wjX
          rw [eC]
          exact ⟨j1, j2, j3⟩
        · show fX2_tryGreeds_h3 5000 (f + 1) (xtw S0) 20 (nI g) (nI v) S1 = _
          rw [hF0, if_pos hq]
      · rw [decide_eq_false hq] at eF
        have eF : F (10 * g + v) = suB n wh wn sn (sq Z d h qs (nI v) g) g := eF
        obtain ⟨X1, b1, b2, b3⟩ := x_begin (N := 5000) (nd := 21) (Or.inl rfl) Zk C1 hg (by omega)
        rw [ht] at b1
        obtain ⟨X2, hX2⟩ : ∃ z, z = sU X1 51 0 (nI v) := ⟨_, rfl⟩
        have s2 : oSame xWk S1 X2 := by rw [hX2]; exact b3.up rfl
        have W2 : wkA X2 (nI v) d (nI h) (qs g) := by
          rw [hX2]
          unfold wkA at b2 ⊢
          refine ⟨by rw [sU_ap, if_pos ⟨rfl, rfl⟩], ?_⟩
          rw [sU_ap, if_neg (by omega), sU_ap, if_neg (by omega), sU_ap, if_neg (by omega), sU_ap, if_neg (by omega), sU_ap, if_neg (by omega), sU_ap, if_neg (by omega)]
          exact b2.2
        have x2 : xSame S0 X2 := i1.tr (xWk.same s2)
        have C2 := C.sm x2
        have ht2 : xtw X2 = xtw S0 := by unfold xtw; rw [x2 0 7 rfl]
        have tx2 : tXz (xtw S0) Z X2 := by rw [← ht2]; exact C2.1
        obtain ⟨X3, f1, f2, f3⟩ := x_follow (T1 := 70) (by decide) (by decide) Zk tx2 ht2 (K.1 g hg) ⟨v, by omega, rfl⟩ W2 h9
        have k3 : ∀ i j, xWk i j = false → i ≠ 70 → X3 i j = S1 i j := by
          intro i j a b
          rw [f3 i j (by show (xWk i j || i == 70) = false; rw [a, beq_false_of_ne b]; rfl)]
          exact s2 i j a
        have x3 : xSame S0 X3 := by
          refine i1.tr (fun i j hij => k3 i j ?_ (fun q => by rw [q] at hij; cases hij))
          refine xWk_f ?_
          refine ⟨?_, ?_, ?_, ?_, ?_⟩ <;> intro q <;> rw [q] at hij <;> cases hij
        have C3 := C.sm x3
        have ht3 : xtw X3 = xtw S0 := by unfold xtw; rw [x3 0 7 rfl]
        have R3 : rwX Z d h qs X3 (tn1 Z) := fun g' a t b => (k3 _ t (xWk_f (by omega)) (by omega)).trans (i2 g' a t b)
        have R7 : ∀ t, t ≤ 20 → X3 70 t = sq Z d h qs (nI v) g t := f2
        have hsu := x_suits (T1 := 70) (R := sq Z d h qs (nI v) g) (g := g) (by decide) (by omega) hk z6 (X.sm hk.1 x3) R7
        have hF1 : fX2_tryGreeds_h3 5000 (f + 1) (xtw S0) 20 (nI g) (nI v) S1 = if iv (F (10 * g + v)) = 0 then fX2_tryGreeds_b108 5000 (fX2_tryGreeds_h3 5000 f) (xtw S0) 20 (nI g) (nI v) X3 else fX2_tryGreeds_b64 5000 (fX2_tryGreeds_h3 5000 f) (xtw S0) 20 (nI g) (nI v) X3 := by
          rw [hF0, if_neg hq, eF]
          unfold fX2_tryGreeds_b22
          dsimp only [lt]
          rw [bnd_t (show fX10_begin 5000 (xtw S0) (20 + 1) (nI g) S1 = _ from b1)]
          dsimp only
          rw [← hX2, bnd_t f1]
          dsimp only
          rw [bnd_t (show fX5_suits 5000 (20 + 8) (nI g) 70 X3 = _ from hsu)]
        have j1' : X3 62 3 = nI (cntB F (10 * g + v)) := (k3 62 3 rfl (by decide)).trans j1
        have j2' : X3 62 4 = (if cntB F (10 * g + v) = 0 then -1 else nI (fI F 0)) := (k3 62 4 rfl (by decide)).trans j2
        have j3' : ∀ t, 1 ≤ t → t ≤ 20 → X3 71 t = nI (orN (fun i => wsN Z d h qs (fI F i) t) (cntB F (10 * g + v))) := fun t a b => (k3 71 t rfl (by decide)).trans (j3 t a b)
        have i3' : X3 62 5 = al := (k3 62 5 rfl (by decide)).trans i3
        cases hs : F (10 * g + v) with
        | false =>
          rw [if_neg (by rw [hs]; decide)] at eC
          refine ⟨X3, ⟨⟨x3, R3, i3'⟩, ?_⟩, ?_⟩
          · unfold wjX
            rw [eC]
            exact ⟨j1', j2', j3'⟩
          · show fX2_tryGreeds_h3 5000 (f + 1) (xtw S0) 20 (nI g) (nI v) S1 = _
            rw [hF1, hs]
            exact b108 X3
        | true =>
          rw [if_pos hs] at eC
          have hat : fI F (cntB F (10 * g + v)) = 10 * g + v := fI_at (by omega) hs
          obtain ⟨X4, hX4⟩ : ∃ z, z = sU (sU X3 62 3 (nI (cntB F (10 * g + v) + 1))) 62 4 (nI (fI F 0)) := ⟨_, rfl⟩
          have k4 : ∀ i j, i ≠ 62 → X4 i j = X3 i j := by
            intro i j q
            rw [hX4, sU_ne q, sU_ne q]
          have x4 : xSame X3 X4 := fun i j hij => k4 i j (fun q => by rw [q] at hij; cases hij)
          have ht4 : xtw X4 = xtw S0 := by unfold xtw; rw [x4 0 7 rfl, x3 0 7 rfl]
          obtain ⟨X5, w1, w2, w3⟩ := x_markWorst (S := X4) (A := fun t => orN (fun i => wsN Z d h qs (fI F i) t) (cntB F (10 * g + v))) Zk (C3.sm x4) K (fun g' a t b => (k4 _ t (by omega)).trans (R3 g' a t b)) hg (by omega) (fun t b => (k4 70 t (by decide)).trans (R7 t b)) (fun t => orN_lt _ (fun i _ => wsN_lt Zk)) (fun t a b => (k4 71 t (by decide)).trans (j3' t a b))
          rw [ht4] at w1
          have x5 : xSame S0 X5 := (x3.tr x4).tr (fun i j hij => w2 i j (fun q => by rw [q] at hij; cases hij))
          refine ⟨X5, ⟨⟨x5, fun g' a t b => ?_, ?_⟩, ?_, ?_, fun t a b => ?_⟩, ?_⟩
          · rw [w2 _ t (by omega), k4 _ t (by omega)]
            exact R3 g' a t b
          · rw [w2 62 5 (by decide), hX4, sU_ap, if_neg (by omega), sU_ap, if_neg (by omega)]
            exact i3'
          · rw [w2 62 3 (by decide), hX4, sU_ap, if_neg (by omega), sU_ap, if_pos ⟨rfl, rfl⟩, eC]
          · rw [w2 62 4 (by decide), hX4, sU_ap, if_pos ⟨rfl, rfl⟩, eC, if_neg (by omega)]
          · rw [w3 t a b, eC]
            show _ = nI (orN _ _ ||| 2 ^ wsN Z d h qs (fI F (cntB F (10 * g + v))) t)
            rw [hat]
          · show fX2_tryGreeds_h3 5000 (f + 1) (xtw S0) 20 (nI g) (nI v) S1 = _
            rw [hF1, hs]
            show fX2_tryGreeds_b64 5000 (fX2_tryGreeds_h3 5000 f) (xtw S0) 20 (nI g) (nI v) X3 = _
            have b98 : ∀ x, x = nI (fI F 0) → fX2_tryGreeds_b98 5000 (fX2_tryGreeds_h3 5000 f) (xtw S0) 20 (nI g) (nI v) x (sU X3 62 3 (nI (cntB F (10 * g + v) + 1))) = fX2_tryGreeds_h3 5000 f (xtw S0) 20 (nI g) (nI (v + 1)) X5 := by
              intro x hx
              unfold fX2_tryGreeds_b98
              dsimp only [lt]
              rw [hx, ← hX4, bnd_t w1]
              exact b108 X5
            unfold fX2_tryGreeds_b64
            dsimp only [lt]
            rw [j1', nI_1 (cntB F (10 * g + v))]
            have e4 : sU X3 62 3 (nI (cntB F (10 * g + v) + 1)) 62 4 = (if cntB F (10 * g + v) = 0 then -1 else nI (fI F 0)) := by
              rw [sU_ap, if_neg (by omega)]
              exact j2'
            rw [e4]
            by_cases h0 : cntB F (10 * g + v) = 0
            · rw [if_pos h0, if_pos rfl]
              refine b98 _ ?_
              rw [h0] at hat
              rw [hat, show (10 : Int32) = nI 10 from rfl, pk_mul, nI_add]
            · have h60 : fI F 0 ≤ 60 := by
                unfold fI
                rcases fsK_sp (ok := fun j => F j && decide (cntB F j = 0)) 60 with ⟨a1, -, -⟩ | ⟨a1, -⟩ <;> omega
              rw [if_neg h0, if_neg (nI_nem (by omega))]
              refine b98 _ ?_
              rw [e4, if_neg h0]
  obtain ⟨⟨w, S'⟩, r1, r2, r3⟩ := main
  dsimp only at r2 r3
  subst r2
  exact ⟨S', r1, r3⟩
end
