section
variable {Z S S0 : gS} {d : Int32} {h g n v : Nat} {qs : Nat → qT} {wh wn : Nat → Nat} {sn : Nat → Int32}
theorem wsN_lt {j t : Nat} (Zk : tOK Z) : wsN Z d h qs j t < 8 := by
  have z6 := Zk.2.1.2
  unfold wsN
  by_cases q : tn1 Z = 0
  · rw [q]; exact (by decide : 0 < 8)
  · have := gtN_lt (v := fun g => sq Z d h qs (upE (Z 5) (j / 10) (nI (j % 10)) g) g t) (tn1 Z) (by omega)
    omega
theorem upE_ok {e : Nat → Int32} (K : qsOK Z e qs) (hv : v ≤ 9) : qsOK Z (upE e g (nI v)) qs := by
  refine ⟨K.1, K.2.1, fun g' hg' => ?_⟩
  unfold upE
  by_cases q : g' = g
  · rw [if_pos q]; exact ⟨v, hv, rfl⟩
  · rw [if_neg q]; exact K.2.2 g' hg'
theorem x_mark17 {r2 : Nat → Int32 → Int32 → gS → Option (Int32 × gS)} {t : Nat} (Zk : tOK Z) (C : cSit 21 Z S h d qs) (K : qsOK Z (Z 5) qs) (R : rwX Z d h qs S (tn1 Z)) (hg : g < tn1 Z) (hv : v ≤ 9) (R7 : ∀ t, t ≤ 20 → S 70 t = sq Z d h qs (nI v) g t) (ht : t ≤ 20) : fX2_markWorst_h17 5000 r2 5000 (xtw S) (nI g) (nI t) 0 (-1) 0 S = fX2_markWorst_b73 5000 r2 (xtw S) (nI g) (nI t) (nI (wsN Z d h qs (10 * g + v) t)) S := by
  have z6 := Zk.2.1.2
  have x5 : S (xtw S) 5 = nI (tn1 Z) := (C.1 0 5 (by omega) (by omega)).trans Zk.2.1.1
  have K' := upE_ok (g := g) K hv
  obtain ⟨V, hV⟩ : ∃ z : Nat → Int32, z = fun g' => sq Z d h qs (upE (Z 5) g (nI v) g') g' t := ⟨_, rfl⟩
  have eW : wsN Z d h qs (10 * g + v) t = gtN V (tn1 Z) := by
    unfold wsN
    rw [show (10 * g + v) / 10 = g by omega, show (10 * g + v) % 10 = v by omega, hV]
  have hV0 : ∀ g', g' < tn1 Z → ¬ V g' ≤ -1 := by
    intro g' hg' hh
    have hq := trj_ok (Z := Z) (d := d) (wf := wetZ Z) (h := h) (K'.1 g' hg') (K'.2.2 g' hg') t
    have h0 : 0 ≤ V g' := by
      rw [hV]
      exact hq.1.1
    exact absurd (Int32.le_trans h0 hh) (by decide)
  have main : ∀ (m k f : Nat) (y : Int32), k + m = tn1 Z → m < f → y = (if k = 0 then -1 else V (gtN V k)) → fX2_markWorst_h17 5000 r2 f (xtw S) (nI g) (nI t) (nI (gtN V k)) y (nI k) S = fX2_markWorst_b73 5000 r2 (xtw S) (nI g) (nI t) (nI (gtN V (tn1 Z))) S := by
    intro m
    induction m with
    | zero =>
      intro k f y hk hf hy
      obtain ⟨f, rfl⟩ : ∃ f', f = f' + 1 := ⟨f - 1, by omega⟩
      obtain rfl : k = tn1 Z := by omega
      show fX2_markWorst_b17 5000 r2 _ (xtw S) (nI g) (nI t) _ y (nI (tn1 Z)) S = _
      unfold fX2_markWorst_b17
      rw [x5, if_pos (nI_le (Nat.le_refl _) (by omega))]
    | succ m ih =>
      intro k f y hk hf hy
      obtain ⟨f, rfl⟩ : ∃ f', f = f' + 1 := ⟨f - 1, by omega⟩
      have hF : fX2_markWorst_h17 5000 r2 (f + 1) (xtw S) (nI g) (nI t) (nI (gtN V k)) y (nI k) S = if V k ≤ y then fX2_markWorst_h17 5000 r2 f (xtw S) (nI g) (nI t) (nI (gtN V k)) y (nI (k + 1)) S else fX2_markWorst_h17 5000 r2 f (xtw S) (nI g) (nI t) (nI k) (V k) (nI (k + 1)) S := by
        have b50 : fX2_markWorst_b50 5000 r2 (fX2_markWorst_h17 5000 r2 f) (xtw S) (nI g) (nI t) (nI (gtN V k)) y (nI k) (V k) S = if V k ≤ y then fX2_markWorst_h17 5000 r2 f (xtw S) (nI g) (nI t) (nI (gtN V k)) y (nI (k + 1)) S else fX2_markWorst_h17 5000 r2 f (xtw S) (nI g) (nI t) (nI k) (V k) (nI (k + 1)) S := by
          unfold fX2_markWorst_b50 fX2_markWorst_b59 fX2_markWorst_b67
          rw [nI_1 k]
        rw [← b50]
        show fX2_markWorst_b17 5000 r2 (fX2_markWorst_h17 5000 r2 f) (xtw S) (nI g) (nI t) (nI (gtN V k)) y (nI k) S = _
        unfold fX2_markWorst_b17
        rw [x5, if_neg (nI_ge (by omega) (by omega))]
        unfold fX2_markWorst_b26
        by_cases q : k = g
        · have eV : V k = S 70 t := by
            rw [hV, R7 t ht, q]
            show sq Z d h qs (upE (Z 5) g (nI v) g) g t = _
            unfold upE
            rw [if_pos rfl]
          rw [q, if_pos rfl]
          unfold fX2_markWorst_b32
          rw [chk_t (inb_t (by omega) (by decide)), nI_clamp (n := t) (by omega), ← eV, q]
        · have eV : V k = S (63 + 1 + k) t := by
            rw [hV, R k (by omega) t ht]
            show sq Z d h qs (upE (Z 5) g (nI v) k) k t = _
            unfold upE
            rw [if_neg q]
          rw [if_neg (fun z => q ((nI_eq (by omega) (by omega)).mp z))]
          unfold fX2_markWorst_b41
          dsimp only [lt]
          rw [chk_t (inb_t (by omega) (by decide)), chk_t (inb_t (by omega) (by decide)), nI_clamp (n := t) (by omega), nI_clamp (n := k) (by omega), ← eV]
      rw [hF]
      by_cases h0 : k = 0
      · subst h0
        rw [hy, if_pos rfl, if_neg (hV0 0 (by omega))]
        exact ih 1 f (V 0) (by omega) (by omega) rfl
      · have e1 : gtN V (k + 1) = if V k ≤ V (gtN V k) then gtN V k else k := if_neg h0
        rw [if_neg h0] at hy
        have := ih (k + 1) f (V (gtN V (k + 1))) (by omega) (by omega) (if_neg (Nat.succ_ne_zero k)).symm
        by_cases h1 : V k ≤ V (gtN V k)
        · rw [if_pos h1] at e1
          rw [hy, if_pos h1]
          rw [e1] at this
          exact this
        · rw [if_neg h1] at e1
          rw [hy, if_neg h1]
          rw [e1] at this
          exact this
  rw [eW]
  exact main (tn1 Z) 0 5000 (-1) (by omega) (by omega) rfl
theorem x_markWorst {A : Nat → Nat} (Zk : tOK Z) (C : cSit 21 Z S h d qs) (K : qsOK Z (Z 5) qs) (R : rwX Z d h qs S (tn1 Z)) (hg : g < tn1 Z) (hv : v ≤ 9) (R7 : ∀ t, t ≤ 20 → S 70 t = sq Z d h qs (nI v) g t) (hA : ∀ t, A t < 256) (RA : ∀ t, 1 ≤ t → t ≤ 20 → S 71 t = nI (A t)) : ∃ S', fX2_markWorst 5000 (xtw S) (nI g) S = some (0, S') ∧ (∀ i j, i ≠ 71 → S' i j = S i j) ∧ ∀ t, 1 ≤ t → t ≤ 20 → S' 71 t = nI (A t ||| 2 ^ wsN Z d h qs (10 * g + v) t) := by
  have z6 := Zk.2.1.2
  have hT := xtw_cases (S := S)
  have main : Gv (fX2_markWorst_h2 5000 5000 (xtw S) (nI g) 1 S) (fun r => r.1 = 0 ∧ (∀ i j, i ≠ 71 → r.2 i j = S i j) ∧ ∀ t, 1 ≤ t → t ≤ 20 → r.2 71 t = nI (A t ||| 2 ^ wsN Z d h qs (10 * g + v) t)) := by
    refine loopG (A := gS) (fun f k S1 => fX2_markWorst_h2 5000 f (xtw S) (nI g) (nI (k + 1)) S1) (fun k S1 => (∀ i j, i ≠ 71 → S1 i j = S i j) ∧ (∀ t, 1 ≤ t → t ≤ k → S1 71 t = nI (A t ||| 2 ^ wsN Z d h qs (10 * g + v) t)) ∧ ∀ t, k < t → t ≤ 20 → S1 71 t = nI (A t)) _ 20 ?_ ?_ 20 0 S 5000 (by omega) ⟨fun _ _ _ => rfl, fun t a b => absurd a (by omega), fun t a b => RA t (by omega) b⟩ (by omega)
    · rintro f S1 ⟨i1, i2, i3⟩
      refine ⟨(0, S1), ?_, rfl, i1, i2⟩
      show fX2_markWorst_b2 5000 _ (xtw S) (nI g) (nI 21) S1 = _
      unfold fX2_markWorst_b2
      rw [if_pos (by decide)]
      rfl
    · rintro f k S1 hk ⟨i1, i2, i3⟩
      have s1 : xSame S S1 := fun i j hij => i1 i j (fun q => by rw [q] at hij; cases hij)
      have ht : xtw S1 = xtw S := by unfold xtw; rw [s1 0 7 rfl]
      have h17 := x_mark17 (r2 := fX2_markWorst_h2 5000 f) (t := k + 1) Zk (C.sm s1) K (fun g' a t b => (i1 _ _ (by omega)).trans (R g' a t b)) hg hv (fun t b => (i1 70 t (by decide)).trans (R7 t b)) (by omega)
      rw [ht] at h17
      refine Or.inr ⟨sU S1 71 (k + 1) (nI (A (k + 1) ||| 2 ^ wsN Z d h qs (10 * g + v) (k + 1))), ⟨fun i j q => ?_, fun t a b => ?_, fun t a b => ?_⟩, ?_⟩
      · rw [sU_ne q]; exact i1 i j q
      · rw [sU_ap]
        by_cases q : t = k + 1
        · rw [if_pos ⟨rfl, q⟩, q]
        · rw [if_neg (fun z => q z.2)]
          exact i2 t a (by omega)
      · rw [sU_ap, if_neg (by omega)]
        exact i3 t (by omega) b
      · show fX2_markWorst_b2 5000 (fX2_markWorst_h2 5000 f) (xtw S) (nI g) (nI (k + 1)) S1 = _
        unfold fX2_markWorst_b2
        rw [if_neg (show ¬ (20 : Int32) < nI (k + 1) from nI_nlt (a := 20) (by omega) (by decide))]
        unfold fX2_markWorst_b8
        rw [h17]
        unfold fX2_markWorst_b73
        dsimp only [lt]
        rw [chk_t (inb_t (by omega) (by decide)), chk_t (inb_t (by omega) (by decide)), nI_clamp (n := k + 1) (by omega), i3 (k + 1) (by omega) (by omega), (or_all (A (k + 1)) (hA _) (wsN Z d h qs (10 * g + v) (k + 1)) (wsN_lt Zk)).1, nI_1 (k + 1)]
  obtain ⟨⟨w, S'⟩, r1, r2, r3⟩ := main
  dsimp only at r2 r3
  subst r2
  exact ⟨S', r1, r3⟩
end
