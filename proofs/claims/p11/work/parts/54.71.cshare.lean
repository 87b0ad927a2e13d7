section
variable {N g : Nat} {Z S0 S : gS} {d : Int32} {h : Nat} {qs : Nat → qT}
/-- what the class's sharing leaves -/
def shR (Z : gS) (qs : Nat → qT) (S0 : gS) (r : Int32 × gS) : Prop := oSame xSh S0 r.2 ∧ r.2 52 2 = nI (myN Z qs (tn1 Z)) ∧ r.2 52 3 = nI (mcN Z qs (tn1 Z)) ∧ ∀ g, g < tn1 Z → r.2 61 g = owV (okO Z qs g (tkN Z qs g)) (tn0 Z)
theorem x_share79 {S1 : gS} (Zk : tOK Z) (K : qsOK Z (Z 5) qs) (C : cSit 21 Z S0 h d qs) (s1 : oSame xSh S0 S1) (T : TB Z qs 0 S1) (m0 : S1 52 2 = 0) (c0 : S1 52 3 = 0) : Gv (fX6_share_h79 5000 5000 (xtw S0) 21 0 0 S1) (shR Z qs S0) := by
  have z6 := Zk.2.1.2
  have z8 := Zk.1.2
  have p256 := pow256 z8
  refine loopG (A := gS) (fun f g S => fX6_share_h79 5000 f (xtw S0) 21 (nI (tkN Z qs g)) (nI g) S) (fun g S => oSame xSh S0 S ∧ TB Z qs 0 S ∧ S 52 2 = nI (myN Z qs g) ∧ S 52 3 = nI (mcN Z qs g) ∧ ∀ g', g' < g → S 61 g' = owV (okO Z qs g' (tkN Z qs g')) (tn0 Z)) _ (tn1 Z) ?_ ?_ (tn1 Z) 0 S1 5000 (by omega) ⟨s1, T, m0, c0, fun _ q => absurd q (by omega)⟩ (by omega)
  · rintro f S ⟨s, T1, i1, i2, i3⟩
    have C' := C.sm (xSh.same s)
    have ht : xtw S = xtw S0 := by unfold xtw; rw [xSh.same s 0 7 rfl]
    have x5 : S (xtw S0) 5 = nI (tn1 Z) := by rw [← ht]; exact (C'.1 0 5 (by omega) (by omega)).trans Zk.2.1.1
    refine ⟨(0, S), ?_, s, i1, i2, i3⟩
    show fX6_share_b79 5000 _ (xtw S0) 21 _ (nI (tn1 Z)) S = _
    unfold fX6_share_b79
    rw [x5, if_pos (nI_le (Nat.le_refl _) (by omega))]
    rfl
  · rintro f g S hg ⟨s, T1, i1, i2, i3⟩
    refine Or.inr ?_
    have C' := C.sm (xSh.same s)
    have ht : xtw S = xtw S0 := by unfold xtw; rw [xSh.same s 0 7 rfl]
    have x5 : S (xtw S0) 5 = nI (tn1 Z) := by rw [← ht]; exact (C'.1 0 5 (by omega) (by omega)).trans Zk.2.1.1
    have x0 : S (xtw S0) 0 = nI (tn0 Z) := by rw [← ht]; exact (C'.1 0 0 (by omega) (by omega)).trans Zk.1.1
    obtain ⟨a1, a2, a3, a4, a5⟩ := tk_ok (qs := qs) Zk g (by omega)
    have hc := x_choice Zk C' K hg a1 a2 T1
    rw [ht] at hc
    have hT2 := xtw_cases (S := S0)
    obtain ⟨v, hv⟩ : ∃ v, v = owV (okO Z qs g (tkN Z qs g)) (tn0 Z) := ⟨_, rfl⟩
    have x0' : sU S 61 g v (xtw S0) 0 = nI (tn0 Z) := by
      rw [sU_ne (by omega)]
      exact x0
    have hF : fX6_share_h79 5000 (f + 1) (xtw S0) 21 (nI (tkN Z qs g)) (nI g) S = if iv (inb v (tn0 Z)) = 0 then fX6_share_b150 5000 (fX6_share_h79 5000 f) (xtw S0) 21 (nI (tkN Z qs g)) (nI g) (sU S 61 g v) else fX6_share_b117 5000 (fX6_share_h79 5000 f) (xtw S0) 21 (nI (tkN Z qs g)) (nI g) v (sU S 61 g v) := by
      show fX6_share_b79 5000 (fX6_share_h79 5000 f) (xtw S0) 21 (nI (tkN Z qs g)) (nI g) S = _
      unfold fX6_share_b79
      rw [x5, if_neg (nI_ge hg (by omega))]
      unfold fX6_share_b88
      dsimp only [lt]
      rw [bnd_t hc, chk_t (inb_t (by omega) (by decide)), nI_clamp (n := g) (by omega), ← hv]
      rw [bnd_t (x_isGrotto x0' (by omega))]
    have e1 : tkN Z qs (g + 1) = if owN Z qs g < tn0 Z then tkN Z qs g ||| 2 ^ owN Z qs g else tkN Z qs g := rfl
    have e2 : myN Z qs (g + 1) = if owN Z qs g < tn0 Z then myN Z qs g + 1 else myN Z qs g := rfl
    have e3 : mcN Z qs (g + 1) = if owN Z qs g < tn0 Z then mcN Z qs g + prN Z (owN Z qs g) else mcN Z qs g := rfl
    have ev : v = if owN Z qs g < tn0 Z then nI (owN Z qs g) else -1 := hv
    have i3' : ∀ g', g' < g + 1 → sU S 61 g v 61 g' = owV (okO Z qs g' (tkN Z qs g')) (tn0 Z) := by
      intro g' q
      rw [sU_ap]
      by_cases e : g' = g
      · rw [if_pos ⟨rfl, e⟩, e]
        exact hv
      · rw [if_neg (fun z => e z.2)]
        exact i3 g' (by omega)
    by_cases ho : owN Z qs g < tn0 Z
    · rw [if_pos ho] at e1 e2 e3 ev
      obtain ⟨o1, o2, o3⟩ := or_all (tkN Z qs g) (by omega) (owN Z qs g) (by omega)
      obtain ⟨p1, p2⟩ := pr_ok Zk ho
      refine ⟨sU (sU (sU S 61 g v) 52 2 (nI (myN Z qs (g + 1)))) 52 3 (nI (mcN Z qs (g + 1))), ⟨((s.up (xSh_t (by omega))).up (xSh_t (by omega))).up (xSh_t (by omega)), ?_, ?_, ?_, ?_⟩, ?_⟩
      · intro g' h1 h2 had h3 h4
        rw [sU_ne (by omega), sU_ne (by omega), sU_ne (by omega)]
        exact T1 g' h1 h2 had h3 h4
      · rw [sU_ap, if_neg (by omega), sU_ap, if_pos ⟨rfl, rfl⟩]
      · rw [sU_ap, if_pos ⟨rfl, rfl⟩]
      · intro g' q
        rw [sU_ne (by omega), sU_ne (by omega)]
        exact i3' g' q
      · show fX6_share_h79 5000 (f + 1) (xtw S0) 21 (nI (tkN Z qs g)) (nI g) S = _
        rw [hF, ev, inb_t ho (by omega), e1, ← o1]
        show fX6_share_b117 5000 (fX6_share_h79 5000 f) (xtw S0) 21 (nI (tkN Z qs g)) (nI g) (nI (owN Z qs g)) (sU S 61 g (nI (owN Z qs g))) = _
        unfold fX6_share_b117
        dsimp only [lt]
        rw [chk_t (inb_t (by omega) (by decide)), nI_clamp (n := owN Z qs g) (by omega)]
        have q3 : sU (sU S 61 g (nI (owN Z qs g))) 52 2 (sU S 61 g (nI (owN Z qs g)) 52 2 + 1) (xtw S0 + 3) (owN Z qs g) = nI (prN Z (owN Z qs g)) := by
          rw [sU_ne (by omega), sU_ne (by omega), ← ht]
          exact (C'.1 3 (owN Z qs g) (by omega) (by omega)).trans p1
        have q2 : sU S 61 g (nI (owN Z qs g)) 52 2 = nI (myN Z qs g) := i1
        have q4 : sU (sU S 61 g (nI (owN Z qs g))) 52 2 (nI (myN Z qs g + 1)) 52 3 = nI (mcN Z qs g) := by
          rw [sU_ap, if_neg (by omega)]
          exact i2
        rw [q3, q2, nI_1 (myN Z qs g), q4, nI_add, e2, e3]
        unfold fX6_share_b150
        rw [nI_1 g]
    · rw [if_neg ho] at e1 e2 e3 ev
      refine ⟨sU S 61 g v, ⟨s.up (xSh_t (by omega)), ?_, ?_, ?_, i3'⟩, ?_⟩
      · intro g' h1 h2 had h3 h4
        rw [sU_ne (by omega)]
        exact T1 g' h1 h2 had h3 h4
      · rw [e2]; exact i1
      · rw [e3]; exact i2
      · show fX6_share_h79 5000 (f + 1) (xtw S0) 21 (nI (tkN Z qs g)) (nI g) S = _
        rw [hF, e1, inb_f1 (show v < 0 by rw [ev]; decide)]
        show fX6_share_b150 5000 (fX6_share_h79 5000 f) (xtw S0) 21 (nI (tkN Z qs g)) (nI g) (sU S 61 g v) = _
        unfold fX6_share_b150
        rw [nI_1 g]
theorem x_share (Zk : tOK Z) (K : qsOK Z (Z 5) qs) (C : cSit 21 Z S0 h d qs) : Gv (fX6_share 5000 (xtw S0) 21 S0) (shR Z qs S0) := by
  have z6 := Zk.2.1.2
  have x5 : S0 (xtw S0) 5 = nI (tn1 Z) := (C.1 0 5 (by omega) (by omega)).trans Zk.2.1.1
  unfold fX6_share fX6_share_b0
  rw [x5, dI_sub]
  have main : ∀ (m : Nat) (S : gS) (f : Nat), m ≤ tn1 Z → m < f → oSame xSh S0 S → TB Z qs m S → Gv (fX6_share_h7 5000 f (xtw S0) 21 (dI m) S) (shR Z qs S0) := by
    intro m
    induction m with
    | zero =>
      intro S f hm hf s T
      obtain ⟨f, rfl⟩ : ∃ f', f = f' + 1 := ⟨f - 1, by omega⟩
      show Gv (fX6_share_b7 5000 _ (xtw S0) 21 (dI 0) S) _
      unfold fX6_share_b7
      rw [dI_0, if_pos (by decide)]
      unfold fX6_share_b64
      dsimp only [lt]
      refine x_share79 Zk K C ((s.up (xSh_t (by omega))).up (xSh_t (by omega))) (fun g' h1 h2 had h3 h4 => ?_) ?_ ?_
      · rw [sU_ne (by omega), sU_ne (by omega)]
        exact T g' h1 h2 had h3 h4
      · rw [sU_ap, if_neg (by omega), sU_ap, if_pos ⟨rfl, rfl⟩]
      · rw [sU_ap, if_pos ⟨rfl, rfl⟩]
    | succ m ih =>
      intro S f hm hf s T
      obtain ⟨f, rfl⟩ : ∃ f', f = f' + 1 := ⟨f - 1, by omega⟩
      have C' := C.sm (xSh.same s)
      have ht : xtw S = xtw S0 := by unfold xtw; rw [xSh.same s 0 7 rfl]
      show Gv (fX6_share_b7 5000 (fX6_share_h7 5000 f) (xtw S0) 21 (dI (m + 1)) S) _
      unfold fX6_share_b7
      rw [dI_s, if_neg (nI_pos (by omega))]
      show Gv (fX6_share_h14 5000 (fX6_share_h7 5000 f) 5000 (xtw S0) 21 (nI m) 0 S) _
      rw [← ht]
      refine x_share14 Zk K (by omega) _ C' T (fun S' h1 h2 => ?_)
      rw [ht]
      exact ih S' f (by omega) (by omega) (s.tr h1) h2
  exact main (tn1 Z) S0 5000 (Nat.le_refl _) (by omega) oSame.rf (fun g h1 h2 => absurd h2 (by omega))
end
