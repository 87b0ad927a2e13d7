theorem x_weigh_0 {N k1 k2 : Nat} {S : gS} : fX2_weigh N k1 k2 S = fX2_weigh_h13 N N k1 k2 0 (sU (sU S 62 3 0) 62 4 (-1)) := rfl
section
variable {Z S S0 : gS} {d : Int32} {h g n v : Nat} {qs : Nat → qT} {wh wn : Nat → Nat} {sn : Nat → Int32}
theorem x_weigh {F : Nat → Bool} (hF : F = fitB Z d h qs n wh wn sn) (Zk : tOK Z) (C : cSit 21 Z S0 h d qs) (K : qsOK Z (Z 5) qs) (hk : seK Z n wh wn) (X : seX n wh wn sn S0) (h9 : h ≤ 999) : ∃ S', fX2_weigh 5000 (xtw S0) 20 S0 = some (0, S') ∧ xSame S0 S' ∧ S' 62 5 = iv (otB Z d h qs n wh wn sn (-1)) ∧ wjX Z d h qs F (10 * tn1 Z) S' := by
  have z6 := Zk.2.1.2
  have hTc := xtw_cases (S := S0)
  have xx : ∀ S1, xSame S0 S1 → S1 (xtw S0) 5 = nI (tn1 Z) ∧ xtw S1 = xtw S0 := by
    intro S1 s
    have ht : xtw S1 = xtw S0 := by unfold xtw; rw [s 0 7 rfl]
    refine ⟨?_, ht⟩
    rw [← ht]
    exact ((C.sm s).1 0 5 (by omega) (by omega)).trans Zk.2.1.1
  -- behind the rows: each guild's guesses
  have third : ∀ S1, tgX Z d h qs (iv (otB Z d h qs n wh wn sn (-1))) S0 S1 → wjX Z d h qs F 0 S1 → Gv (fX2_weigh_h92 5000 5000 (xtw S0) 20 0 S1) (fun r => r.1 = 0 ∧ tgX Z d h qs (iv (otB Z d h qs n wh wn sn (-1))) S0 r.2 ∧ wjX Z d h qs F (10 * tn1 Z) r.2) := by
    intro S1 t1 w1
    refine loopG (A := gS) (fun f g S => fX2_weigh_h92 5000 f (xtw S0) 20 (nI g) S) (fun g S => tgX Z d h qs (iv (otB Z d h qs n wh wn sn (-1))) S0 S ∧ wjX Z d h qs F (10 * g) S) _ (tn1 Z) ?_ ?_ (tn1 Z) 0 S1 5000 (by omega) ⟨t1, w1⟩ (by omega)
    · rintro f S ⟨i1, i2⟩
      refine ⟨(0, S), ?_, rfl, i1, i2⟩
      show fX2_weigh_b92 5000 _ (xtw S0) 20 (nI (tn1 Z)) S = _
      unfold fX2_weigh_b92
      rw [(xx S i1.1).1, if_pos (nI_le (Nat.le_refl _) (by omega))]
      rfl
    · rintro f g S hg ⟨i1, i2⟩
      have ho := x_others (x := nI g) Zk (C.sm i1.1) hk (X.sm hk.1 i1.1) i1.2.1
      rw [(xx S i1.1).2] at ho
      have hF0 : fX2_weigh_h92 5000 (f + 1) (xtw S0) 20 (nI g) S = if iv (otB Z d h qs n wh wn sn (nI g)) = 0 then fX2_weigh_h92 5000 f (xtw S0) 20 (nI (g + 1)) S else fX2_weigh_b115 5000 (fX2_weigh_h92 5000 f) (xtw S0) 20 (nI g) S := by
        show fX2_weigh_b92 5000 (fX2_weigh_h92 5000 f) (xtw S0) 20 (nI g) S = _
        unfold fX2_weigh_b92
        rw [(xx S i1.1).1, if_neg (nI_ge hg (by omega))]
        unfold fX2_weigh_b101
        rw [bnd_t (show fX2_doOthersSuit 5000 (xtw S0) (20 + 8) (nI g) S = _ from ho)]
        unfold fX2_weigh_b124
        rw [nI_1 g]
      refine Or.inr ?_
      cases hot : otB Z d h qs n wh wn sn (nI g) with
      | false =>
        refine ⟨S, ⟨i1, ?_⟩, ?_⟩
        · have no : ∀ m, m ≤ 10 → cntB F (10 * g + m) = cntB F (10 * g) := by
            intro m
            induction m with
            | zero => intro _; rfl
            | succ m ih =>
              intro hm
              show cntB F (10 * g + m) + (if F (10 * g + m) = true then 1 else 0) = _
              have : F (10 * g + m) = false := by
                rw [hF]
                unfold fitB
                rw [show (10 * g + m) / 10 = g by omega, hot, Bool.false_and, Bool.and_false]
              rw [this, ih (by omega)]
              rfl
          have e10 := no 10 (by omega)
          unfold wjX
          rw [show 10 * (g + 1) = 10 * g + 10 by omega, e10]
          exact i2
        · show fX2_weigh_h92 5000 (f + 1) (xtw S0) 20 (nI g) S = _
          rw [hF0, hot]
          rfl
      | true =>
        obtain ⟨S2, a1, a2, a3⟩ := x_tryGreeds hF Zk C K hk X h9 hg hot i1 i2
        refine ⟨S2, ⟨a2, a3⟩, ?_⟩
        show fX2_weigh_h92 5000 (f + 1) (xtw S0) 20 (nI g) S = _
        rw [hF0, hot]
        show fX2_weigh_b115 5000 (fX2_weigh_h92 5000 f) (xtw S0) 20 (nI g) S = _
        unfold fX2_weigh_b115
        rw [bnd_t a1]
        unfold fX2_weigh_b124
        rw [nI_1 g]
  have second : ∀ S1, xSame S0 S1 → wjX Z d h qs F 0 S1 → Gv (fX2_weigh_h37 5000 5000 (xtw S0) 20 0 S1) (fun r => r.1 = 0 ∧ tgX Z d h qs (iv (otB Z d h qs n wh wn sn (-1))) S0 r.2 ∧ wjX Z d h qs F (10 * tn1 Z) r.2) := by
    intro S1 t1 w1
    refine loopG (A := gS) (fun f g S => fX2_weigh_h37 5000 f (xtw S0) 20 (nI g) S) (fun g S => xSame S0 S ∧ rwX Z d h qs S g ∧ wjX Z d h qs F 0 S) _ (tn1 Z) ?_ ?_ (tn1 Z) 0 S1 5000 (by omega) ⟨t1, fun g q => absurd q (by omega), w1⟩ (by omega)
    · rintro f S ⟨i1, i2, i3⟩
      have ho := x_others (x := -1) Zk (C.sm i1) hk (X.sm hk.1 i1) i2
      rw [(xx S i1).2] at ho
      have k6 : ∀ i j, ¬ (i = 62 ∧ j = 5) → sU S 62 5 (iv (otB Z d h qs n wh wn sn (-1))) i j = S i j := fun i j q => by rw [sU_ap, if_neg q]
      have e : fX2_weigh_h37 5000 (f + 1) (xtw S0) 20 (nI (tn1 Z)) S = fX2_weigh_h92 5000 5000 (xtw S0) 20 0 (sU S 62 5 (iv (otB Z d h qs n wh wn sn (-1)))) := by
        show fX2_weigh_b37 5000 _ (xtw S0) 20 (nI (tn1 Z)) S = _
        unfold fX2_weigh_b37
        rw [(xx S i1).1, if_pos (nI_le (Nat.le_refl _) (by omega))]
        unfold fX2_weigh_b75
        dsimp only [lt]
        rw [bnd_t (show fX2_doOthersSuit 5000 (xtw S0) (20 + 8) (-1) S = _ from ho), chk_t (zb_iv)]
      show Gv (fX2_weigh_h37 5000 (f + 1) (xtw S0) 20 (nI (tn1 Z)) S) _
      rw [e]
      refine third _ ⟨i1.up rfl, fun g' a t b => ?_, ?_⟩ ⟨?_, ?_, fun t a b => ?_⟩
      · rw [k6 _ _ (by omega)]; exact i2 g' a t b
      · rw [sU_ap, if_pos ⟨rfl, rfl⟩]
      · rw [k6 _ _ (by omega)]; exact i3.1
      · rw [k6 _ _ (by omega)]; exact i3.2.1
      · rw [k6 _ _ (by omega)]; exact i3.2.2 t a b
    · rintro f g S hg ⟨i1, i2, i3⟩
      have C1 := C.sm i1
      have ht := (xx S i1).2
      obtain ⟨X1, b1, b2, b3⟩ := x_begin (N := 5000) (nd := 21) (Or.inl rfl) Zk C1 hg (by omega)
      rw [ht] at b1
      have x1 : xSame S0 X1 := i1.tr (xWk.same b3)
      have ht1 := (xx X1 x1).2
      have tx1 : tXz (xtw S0) Z X1 := by rw [← ht1]; exact (C.sm x1).1
      obtain ⟨X3, f1, f2, f3⟩ := x_follow (T1 := 63 + 1 + g) (by omega) (xN_g g (by omega)) Zk tx1 ht1 (K.1 g hg) (K.2.2 g hg) b2 h9
      have k3 : ∀ i j, xWk i j = false → i ≠ 63 + 1 + g → X3 i j = S i j := by
        intro i j a b
        rw [f3 i j (by show (xWk i j || i == 63 + 1 + g) = false; rw [a, beq_false_of_ne b]; rfl)]
        exact b3 i j a
      refine Or.inr ⟨X3, ⟨i1.tr (fun i j hij => k3 i j ?_ ?_), fun g' a t b => ?_, ?_, ?_, fun t a b => ?_⟩, ?_⟩
      · refine xWk_f ?_
        refine ⟨?_, ?_, ?_, ?_, ?_⟩ <;> intro q <;> rw [q] at hij <;> cases hij
      · intro q
        rcases (show g = 0 ∨ g = 1 ∨ g = 2 ∨ g = 3 ∨ g = 4 ∨ g = 5 by omega) with r | r | r | r | r | r <;> rw [q, r] at hij <;> cases hij
      · by_cases q : g' = g
        · rw [q]
          exact f2 t b
        · rw [k3 _ t (xWk_f (by omega)) (by omega)]
          exact i2 g' (by omega) t b
      · rw [k3 62 3 rfl (by omega)]; exact i3.1
      · rw [k3 62 4 rfl (by omega)]; exact i3.2.1
      · rw [k3 71 t rfl (by omega)]; exact i3.2.2 t a b
      · show fX2_weigh_b37 5000 (fX2_weigh_h37 5000 f) (xtw S0) 20 (nI g) S = _
        unfold fX2_weigh_b37
        rw [(xx S i1).1, if_neg (nI_ge hg (by omega))]
        unfold fX2_weigh_b46
        dsimp only [lt]
        rw [bnd_t (show fX10_begin 5000 (xtw S0) (20 + 1) (nI g) S = _ from b1), chk_t (inb_t (by omega) (by decide)), nI_clamp (n := g) (by omega)]
        dsimp only
        rw [bnd_t f1]
        dsimp only
        rw [nI_1 g]
  have first : ∀ S1, xSame S0 S1 → S1 62 3 = 0 → S1 62 4 = -1 → Gv (fX2_weigh_h13 5000 5000 (xtw S0) 20 0 S1) (fun r => r.1 = 0 ∧ tgX Z d h qs (iv (otB Z d h qs n wh wn sn (-1))) S0 r.2 ∧ wjX Z d h qs F (10 * tn1 Z) r.2) := by
    intro S1 t1 w1 w2
    refine loopG (A := gS) (fun f k S => fX2_weigh_h13 5000 f (xtw S0) 20 (nI k) S) (fun k S => xSame S0 S ∧ S 62 3 = 0 ∧ S 62 4 = -1 ∧ ∀ t, t < k → S 71 t = 0) _ 21 ?_ ?_ 21 0 S1 5000 (by omega) ⟨t1, w1, w2, fun g q => absurd q (by omega)⟩ (by omega)
    · rintro f S ⟨i1, i2, i3, i4⟩
      have e : fX2_weigh_h13 5000 (f + 1) (xtw S0) 20 (nI 21) S = fX2_weigh_h37 5000 5000 (xtw S0) 20 0 S := by
        show fX2_weigh_b13 5000 _ (xtw S0) 20 (nI 21) S = _
        unfold fX2_weigh_b13
        rw [if_pos (by decide)]
        rfl
      show Gv (fX2_weigh_h13 5000 (f + 1) (xtw S0) 20 (nI 21) S) _
      rw [e]
      exact second S i1 ⟨i2, i3, fun t a b => i4 t (by omega)⟩
    · rintro f k S hk' ⟨i1, i2, i3, i4⟩
      refine Or.inr ⟨sU S 71 k 0, ⟨i1.up rfl, ?_, ?_, fun t a => ?_⟩, ?_⟩
      · rw [sU_ne (by decide)]; exact i2
      · rw [sU_ne (by decide)]; exact i3
      · rw [sU_ap]
        by_cases q : t = k
        · rw [if_pos ⟨rfl, q⟩]
        · rw [if_neg (fun z => q z.2)]
          exact i4 t (by omega)
      · show fX2_weigh_b13 5000 (fX2_weigh_h13 5000 f) (xtw S0) 20 (nI k) S = _
        unfold fX2_weigh_b13
        rw [if_neg (show ¬ (20 : Int32) < nI k from nI_nlt (a := 20) (by omega) (by decide))]
        unfold fX2_weigh_b20
        dsimp only [lt]
        rw [chk_t (inb_t (by omega) (by decide)), nI_clamp (n := k) (by omega), nI_1 k]
  obtain ⟨⟨w, S'⟩, r1, r2, r3, r4⟩ := first (sU (sU S0 62 3 0) 62 4 (-1)) ((xSame.rf.up rfl).up rfl) (by rw [sU_ap, if_neg (by omega), sU_ap, if_pos ⟨rfl, rfl⟩]) (by rw [sU_ap, if_pos ⟨rfl, rfl⟩])
  dsimp only at r2 r3 r4
  subst r2
  refine ⟨S', ?_, r3.1, r3.2.2, r4⟩
  rw [x_weigh_0]
  exact r1
end
