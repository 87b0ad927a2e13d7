/-! part 75.guess -/
section
section
variable {Z S S0 : gS} {d e : Int32} {h g n : Nat} {qs : Nat → qT} {wh wn : Nat → Nat} {sn : Nat → Int32} {q : qT}
theorem x_follow {T1 : Nat} (hT1 : 64 ≤ T1 ∧ T1 ≤ 70) (hn : xN T1 = 21) (Zk : tOK Z) (hx : tXz (xtw S0) Z S) (ht : xtw S = xtw S0) (hq : qOK (tn0 Z) q) (he : eOK e) (W : wkA S e d (nI h) q) (h9 : h ≤ 999) : ∃ S', fX2_follow 5000 (xtw S0) T1 S = some (0, S') ∧ (∀ t, t ≤ 20 → S' T1 t = (trj Z e d (wetZ Z) h q t).1) ∧ oSame (fun i j => xWk i j || i == T1) S S' := by
  have hT := xtw_cases (S := S0)
  have main : Gv (fX2_follow_h2 5000 5000 (xtw S0) T1 0 S) (fun r => r.1 = 0 ∧ (∀ t, t < 21 → r.2 T1 t = (trj Z e d (wetZ Z) h q t).1) ∧ oSame (fun i j => xWk i j || i == T1) S r.2) := by
    refine loopG (A := gS) (fun f k S' => fX2_follow_h2 5000 f (xtw S0) T1 (nI k) S') (fun k S' => wkA S' e d (nI (h + k)) (trj Z e d (wetZ Z) h q k) ∧ (∀ t, t < k → S' T1 t = (trj Z e d (wetZ Z) h q t).1) ∧ oSame (fun i j => xWk i j || i == T1) S S') _ 21 ?_ ?_ 21 0 S 5000 (by omega) ⟨W, fun _ q => absurd q (by omega), oSame.rf⟩ (by omega)
    · rintro f S1 ⟨i1, i2, i3⟩
      refine ⟨(0, S1), ?_, rfl, i2, i3⟩
      show fX2_follow_b2 5000 _ (xtw S0) T1 (nI 21) S1 = _
      unfold fX2_follow_b2
      rw [hn, if_pos (by decide)]
      rfl
    · rintro f k S1 hk ⟨i1, i2, i3⟩
      have hP : ∀ i j, xWk i j = false → i ≠ T1 → (xWk i j || i == T1) = false := by
        intro i j a b
        rw [a, beq_false_of_ne b]
        rfl
      have s1 : ∀ x, oSame (fun i j => xWk i j || i == T1) S (sU S1 T1 k x) := fun x => i3.up (by
        show (xWk T1 k || T1 == T1) = true
        rw [beq_self_eq_true, Bool.or_true])
      have W1 : ∀ x, wkA (sU S1 T1 k x) e d (nI (h + k)) (trj Z e d (wetZ Z) h q k) := by
        intro x
        unfold wkA
        rw [sU_ne (by omega)]
        exact i1
      have hx1 : ∀ S2, oSame (fun i j => xWk i j || i == T1) S S2 → tXz (xtw S0) Z S2 := by
        intro S2 s i j a b
        rw [s (xtw S0 + i) j ?_]
        · exact hx i j a b
        · refine hP _ _ (xWk_f ?_) (by omega)
          have := a
          have := b
          omega
      obtain ⟨S2, p1, p2, p3⟩ := x_passHour (N := 5000) (we := wetZ Z (h + k)) hT Zk (hx1 _ (s1 (S1 51 1))) (trj_ok (Z := Z) (d := d) (wf := wetZ Z) (h := h) hq he k) he (W1 (S1 51 1)) (by decide)
      refine Or.inr ⟨S2, ⟨?_, fun t ht' => ?_, ?_⟩, ?_⟩
      · rw [nI_1 (h + k)] at p2
        exact p2
      · rw [p3 T1 t (xWk_f (by omega)), sU_ap]
        by_cases q' : t = k
        · rw [if_pos ⟨rfl, q'⟩, i1.2.1, q']
        · rw [if_neg (fun z => q' z.2)]
          exact i2 t (by omega)
      · intro i j hij
        rw [p3 i j (by rw [Bool.or_eq_false_iff] at hij; exact hij.1)]
        exact s1 _ i j hij
      · show fX2_follow_b2 5000 (fX2_follow_h2 5000 f) (xtw S0) T1 (nI k) S1 = _
        unfold fX2_follow_b2
        rw [hn, if_neg (show ¬ (Int32.ofNat 21) ≤ nI k from nI_ge (b := 21) hk (by omega))]
        unfold fX2_follow_b8
        dsimp only [lt]
        rw [hn, chk_t (inb_t hk (by decide)), nI_clamp (n := k) (by omega), (W1 (S1 51 1)).2.2.2.2.2.1, bnd_t (x_wetZ Zk (hx1 _ (s1 (S1 51 1))) (by omega))]
        dsimp only
        rw [bnd_t p1]
        dsimp only
        rw [nI_1 k]
  obtain ⟨⟨v, S'⟩, r1, r2, r3, r4⟩ := main
  dsimp only at r2 r3 r4
  subst r2
  exact ⟨S', r1, fun t ht => r3 t (by omega), r4⟩
theorem x_suits {T1 : Nat} {R : Nat → Int32} (hn : xN T1 = 21) (hg : g < 2 ^ 31) (hk : seK Z n wh wn) (hz : tn1 Z ≤ 6) (X : seX n wh wn sn S) (hR : ∀ t, t ≤ 20 → S T1 t = R t) : fX5_suits 5000 28 (nI g) T1 S = some (iv (suB n wh wn sn R g), S) := by
  have k8 := hk.1
  have main : Gv (fX5_suits_h2 5000 5000 28 (nI g) T1 0 S) (fun r => r = (iv (suB n wh wn sn R g), S)) := by
    refine loopG (A := Unit) (fun f k _ => fX5_suits_h2 5000 f 28 (nI g) T1 (nI k) S) (fun k _ => alB (fun i => !(decide (wh i = g)) || decide (R (wn i) = sn i)) k = true) _ n ?_ ?_ n 0 () 5000 (by omega) rfl (by omega)
    · rintro f a i1
      refine ⟨(1, S), ?_, ?_⟩
      · show fX5_suits_b2 5000 _ 28 _ T1 (nI n) S = _
        unfold fX5_suits_b2
        rw [X.1, if_pos (nI_le (Nat.le_refl _) (by omega))]
        rfl
      · unfold suB
        rw [i1]
        rfl
    · rintro f k a hk1 i1
      obtain ⟨x1, x2, x3⟩ := X.2 k hk1
      obtain ⟨y1, y2⟩ := hk.2 k hk1
      have hF : fX5_suits_h2 5000 (f + 1) 28 (nI g) T1 (nI k) S = if nI (wh k) = nI g then fX5_suits_b52 5000 (fX5_suits_h2 5000 f) 28 (nI g) T1 (nI k) S else fX5_suits_b71 5000 (fX5_suits_h2 5000 f) 28 (nI g) T1 (nI k) S := by
        show fX5_suits_b2 5000 (fX5_suits_h2 5000 f) 28 (nI g) T1 (nI k) S = _
        unfold fX5_suits_b2
        rw [X.1, if_neg (nI_ge hk1 (by omega))]
        unfold fX5_suits_b10
        rw [chk_t (inb_t (by omega) (by decide)), nI_clamp (n := k) (by omega), show S (28 + 2) k = _ from x2, if_neg (nI_pos (by omega))]
        unfold fX5_suits_b19
        rw [chk_t (inb_t (by omega) (by decide)), nI_clamp (n := k) (by omega), show S (28 + 2) k = _ from x2, hn, if_neg (show ¬ (Int32.ofNat 21) ≤ nI (wn k) from nI_ge (b := 21) (by omega) (by omega))]
        unfold fX5_suits_b30 fX5_suits_b35
        rw [chk_t (inb_t (by omega) (by decide)), nI_clamp (n := k) (by omega), show S (28 + 1) k = _ from x1]
        rfl
      have nx : (!(decide (wh k = g)) || decide (R (wn k) = sn k)) = true → alB (fun i => !(decide (wh i = g)) || decide (R (wn i) = sn i)) (k + 1) = true := by
        intro q
        show (alB _ k && _) = true
        rw [i1]
        exact q
      have hF2 : fX5_suits_b52 5000 (fX5_suits_h2 5000 f) 28 (nI g) T1 (nI k) S = if R (wn k) = sn k then fX5_suits_b71 5000 (fX5_suits_h2 5000 f) 28 (nI g) T1 (nI k) S else fX5_suits_b69 5000 S := by
        unfold fX5_suits_b52
        rw [chk_t (inb_t (by omega) (by decide)), nI_clamp (n := k) (by omega), show S (28 + 2) k = _ from x2, hn, chk_t (inb_t (by omega) (by decide)), chk_t (inb_t (by omega) (by decide)), nI_clamp (n := wn k) (by omega), hR (wn k) y2, show S (28 + 3) k = _ from x3]
      have hF3 : fX5_suits_b71 5000 (fX5_suits_h2 5000 f) 28 (nI g) T1 (nI k) S = fX5_suits_h2 5000 f 28 (nI g) T1 (nI (k + 1)) S := by
        unfold fX5_suits_b71
        rw [nI_1 k]
      by_cases hw : wh k = g
      · by_cases hs : R (wn k) = sn k
        · refine Or.inr ⟨(), nx (by rw [decide_eq_true hs, Bool.or_true]), ?_⟩
          show fX5_suits_h2 5000 (f + 1) 28 (nI g) T1 (nI k) S = _
          rw [hF, hw, if_pos rfl, hF2, if_pos hs, hF3]
        · refine Or.inl ⟨(0, S), ?_, ?_⟩
          · show fX5_suits_h2 5000 (f + 1) 28 (nI g) T1 (nI k) S = _
            rw [hF, hw, if_pos rfl, hF2, if_neg hs]
            rfl
          · unfold suB
            rw [alB_f hk1 (by rw [decide_eq_true hw, decide_eq_false hs]; rfl)]
            rfl
      · refine Or.inr ⟨(), nx (by rw [decide_eq_false hw]; rfl), ?_⟩
        show fX5_suits_h2 5000 (f + 1) 28 (nI g) T1 (nI k) S = _
        rw [hF, if_neg (fun z => hw ((nI_eq (by omega) (by omega)).mp z)), hF3]
  obtain ⟨r, r1, rfl⟩ := main
  exact r1
/-- the class's rows hold how the SIN of each GUILD goes -/
def rwX (Z : gS) (d : Int32) (h : Nat) (qs : Nat → qT) (S : gS) (g0 : Nat) : Prop := ∀ g, g < g0 → ∀ t, t ≤ 20 → S (63 + 1 + g) t = sq Z d h qs (Z 5 g) g t
theorem xN_g : ∀ g, g < 6 → xN (63 + 1 + g) = 21 := by decide
theorem x_others {x : Int32} (Zk : tOK Z) (C : cSit 21 Z S h d qs) (hk : seK Z n wh wn) (X : seX n wh wn sn S) (R : rwX Z d h qs S (tn1 Z)) : fX2_doOthersSuit 5000 (xtw S) 28 x S = some (iv (otB Z d h qs n wh wn sn x), S) := by
  have z6 := Zk.2.1.2
  have x5 : S (xtw S) 5 = nI (tn1 Z) := (C.1 0 5 (by omega) (by omega)).trans Zk.2.1.1
  have main : Gv (fX2_doOthersSuit_h3 5000 5000 (xtw S) 28 x 0 S) (fun r => r = (iv (otB Z d h qs n wh wn sn x), S)) := by
    refine loopG (A := Unit) (fun f k _ => fX2_doOthersSuit_h3 5000 f (xtw S) 28 x (nI k) S) (fun k _ => alB (fun g => decide (nI g = x) || suB n wh wn sn (sq Z d h qs (Z 5 g) g) g) k = true) _ (tn1 Z) ?_ ?_ (tn1 Z) 0 () 5000 (by omega) rfl (by omega)
    · rintro f a i1
      refine ⟨(1, S), ?_, ?_⟩
      · show fX2_doOthersSuit_b3 5000 _ (xtw S) 28 _ (nI (tn1 Z)) S = _
        unfold fX2_doOthersSuit_b3
        rw [x5, if_pos (nI_le (Nat.le_refl _) (by omega))]
        rfl
      · unfold otB
        rw [i1]
        rfl
    · rintro f k a hk1 i1
      have hF : fX2_doOthersSuit_h3 5000 (f + 1) (xtw S) 28 x (nI k) S = if nI k = x then fX2_doOthersSuit_b36 5000 (fX2_doOthersSuit_h3 5000 f) (xtw S) 28 x (nI k) S else if iv (suB n wh wn sn (sq Z d h qs (Z 5 k) k) k) = 0 then fX2_doOthersSuit_b34 5000 S else fX2_doOthersSuit_b36 5000 (fX2_doOthersSuit_h3 5000 f) (xtw S) 28 x (nI k) S := by
        show fX2_doOthersSuit_b3 5000 (fX2_doOthersSuit_h3 5000 f) (xtw S) 28 x (nI k) S = _
        unfold fX2_doOthersSuit_b3
        rw [x5, if_neg (nI_ge hk1 (by omega))]
        unfold fX2_doOthersSuit_b12 fX2_doOthersSuit_b18
        dsimp only [lt]
        rw [chk_t (inb_t (by omega) (by decide)), nI_clamp (n := k) (by omega), bnd_t (x_suits (xN_g k (by omega)) (by omega) hk z6 X (R k hk1))]
      have nx : (decide (nI k = x) || suB n wh wn sn (sq Z d h qs (Z 5 k) k) k) = true → alB (fun g => decide (nI g = x) || suB n wh wn sn (sq Z d h qs (Z 5 g) g) g) (k + 1) = true := by
        intro q
        show (alB _ k && _) = true
        rw [i1]
        exact q
      have hF3 : fX2_doOthersSuit_b36 5000 (fX2_doOthersSuit_h3 5000 f) (xtw S) 28 x (nI k) S = fX2_doOthersSuit_h3 5000 f (xtw S) 28 x (nI (k + 1)) S := by
        unfold fX2_doOthersSuit_b36
        rw [nI_1 k]
      by_cases hw : nI k = x
      · refine Or.inr ⟨(), nx (by rw [decide_eq_true hw]; rfl), ?_⟩
        show fX2_doOthersSuit_h3 5000 (f + 1) (xtw S) 28 x (nI k) S = _
        rw [hF, if_pos hw, hF3]
      · cases hs : suB n wh wn sn (sq Z d h qs (Z 5 k) k) k with
        | true =>
          refine Or.inr ⟨(), nx (by rw [hs, Bool.or_true]), ?_⟩
          show fX2_doOthersSuit_h3 5000 (f + 1) (xtw S) 28 x (nI k) S = _
          rw [hF, if_neg hw, hs]
          exact hF3
        | false =>
          refine Or.inl ⟨(0, S), ?_, ?_⟩
          · show fX2_doOthersSuit_h3 5000 (f + 1) (xtw S) 28 x (nI k) S = _
            rw [hF, if_neg hw, hs]
            rfl
          · unfold otB
            rw [alB_f hk1 (by rw [decide_eq_false hw, hs]; rfl)]
            rfl
  obtain ⟨r, r1, rfl⟩ := main
  exact r1
end
end
