/-! part 70.bshare -/
section
noncomputable def dI (m : Nat) : Int32 := nI m + (-1)
theorem dI_0 : dI 0 = -1 := by decide
theorem dI_s {m : Nat} : dI (m + 1) = nI m := by
  unfold dI
  rw [← nI_1, Int32.add_assoc]
  exact Int32.add_zero _
theorem dI_sub {m : Nat} : nI m - 1 = dI m := Int32.sub_eq_add_neg _ _
noncomputable def fsK (ok : Nat → Bool) : Nat → Nat
  | 0 => 0
  | n + 1 => if fsK ok n < n then fsK ok n else if ok n = true then n else n + 1
theorem fsK_sp {ok : Nat → Bool} : ∀ n, (fsK ok n < n ∧ ok (fsK ok n) = true ∧ ∀ i, i < fsK ok n → ok i = false) ∨ (fsK ok n = n ∧ ∀ i, i < n → ok i = false) := by
  intro n
  induction n with
  | zero => exact Or.inr ⟨rfl, fun i h => absurd h (by omega)⟩
  | succ n ih =>
    have e : fsK ok (n + 1) = if fsK ok n < n then fsK ok n else if ok n = true then n else n + 1 := rfl
    rcases ih with ⟨a1, a2, a3⟩ | ⟨a1, a2⟩
    · rw [if_pos a1] at e
      rw [e]
      exact Or.inl ⟨by omega, a2, a3⟩
    · rw [if_neg (by omega)] at e
      cases h : ok n with
      | true =>
        rw [if_pos h] at e
        rw [e]
        exact Or.inl ⟨by omega, h, a2⟩
      | false =>
        rw [if_neg (by rw [h]; decide)] at e
        rw [e]
        refine Or.inr ⟨rfl, fun i hi => ?_⟩
        by_cases q : i = n
        · rw [q]; exact h
        · exact a2 i (by omega)
noncomputable def owV (ok : Nat → Bool) (n : Nat) : Int32 := if fsK ok n < n then nI (fsK ok n) else -1
theorem owV_an {ok : Nat → Bool} {n : Nat} {v : Int32} (h : ansL ok n v) : v = owV ok n := by
  refine ansL.u _ _ h ?_
  unfold owV
  rcases fsK_sp (ok := ok) n with ⟨a1, a2, a3⟩ | ⟨a1, a2⟩
  · rw [if_pos a1]
    exact Or.inl ⟨_, a1, a2, a3, rfl⟩
  · rw [if_neg (by omega)]
    exact Or.inr ⟨a2, rfl⟩
noncomputable def okO (Z : gS) (qs : Nat → qT) (g had k : Nat) : Bool := mayN Z qs g had k && decide (prN Z k + LN Z qs (tn1 Z - (g + 1)) (had ||| 2 ^ k) = LN Z qs (tn1 Z - g) had)
noncomputable def tkN (Z : gS) (qs : Nat → qT) : Nat → Nat
  | 0 => 0
  | g + 1 => if fsK (okO Z qs g (tkN Z qs g)) (tn0 Z) < tn0 Z then tkN Z qs g ||| 2 ^ fsK (okO Z qs g (tkN Z qs g)) (tn0 Z) else tkN Z qs g
noncomputable def owN (Z : gS) (qs : Nat → qT) (g : Nat) : Nat := fsK (okO Z qs g (tkN Z qs g)) (tn0 Z)
noncomputable def myN (Z : gS) (qs : Nat → qT) : Nat → Nat
  | 0 => 0
  | g + 1 => if owN Z qs g < tn0 Z then myN Z qs g + 1 else myN Z qs g
noncomputable def mcN (Z : gS) (qs : Nat → qT) : Nat → Nat
  | 0 => 0
  | g + 1 => if owN Z qs g < tn0 Z then mcN Z qs g + prN Z (owN Z qs g) else mcN Z qs g
theorem tk_ok {Z : gS} {qs : Nat → qT} (Zk : tOK Z) : ∀ g, g ≤ tn1 Z → tkN Z qs g < 2 ^ tn0 Z ∧ pcN (tkN Z qs g) ≤ g ∧ myN Z qs g ≤ g ∧ mcN Z qs g ≤ 20 * g ∧ LN Z qs (tn1 Z) 0 = 1000 * (g - myN Z qs g) + mcN Z qs g + LN Z qs (tn1 Z - g) (tkN Z qs g) := by
  intro g
  have z8 := Zk.1.2
  have p256 := pow256 z8
  induction g with
  | zero =>
    intro _
    refine ⟨Nat.pow_pos (by decide), by show pcN 0 ≤ 0; decide, Nat.le_refl _, Nat.le_refl _, ?_⟩
    show LN Z qs (tn1 Z) 0 = 1000 * (0 - 0) + 0 + LN Z qs (tn1 Z - 0) 0
    have e : LN Z qs (tn1 Z - 0) 0 = LN Z qs (tn1 Z) 0 := rfl
    omega
  | succ g ih =>
    intro hg
    obtain ⟨a1, a2, a3, a4, a5⟩ := ih (by omega)
    have e1 : tkN Z qs (g + 1) = if owN Z qs g < tn0 Z then tkN Z qs g ||| 2 ^ owN Z qs g else tkN Z qs g := rfl
    have e2 : myN Z qs (g + 1) = if owN Z qs g < tn0 Z then myN Z qs g + 1 else myN Z qs g := rfl
    have e3 : mcN Z qs (g + 1) = if owN Z qs g < tn0 Z then mcN Z qs g + prN Z (owN Z qs g) else mcN Z qs g := rfl
    rcases fsK_sp (ok := okO Z qs g (tkN Z qs g)) (tn0 Z) with ⟨b1, b2, b3⟩ | ⟨b1, b2⟩
    · have b1' : owN Z qs g < tn0 Z := b1
      have b2' : okO Z qs g (tkN Z qs g) (owN Z qs g) = true := b2
      rw [if_pos b1'] at e1 e2 e3
      rw [e1, e2, e3]
      obtain ⟨p1, p2⟩ := pr_ok Zk b1'
      obtain ⟨o1, o2, o3⟩ := or_all (tkN Z qs g) (by omega) (owN Z qs g) (by omega)
      unfold okO at b2'
      rw [Bool.and_eq_true, decide_eq_true_iff] at b2'
      refine ⟨or_lt a1 b1', by omega, by omega, by omega, ?_⟩
      rw [a5, ← b2'.2]
      omega
    · have b1' : ¬ owN Z qs g < tn0 Z := by
        show ¬ fsK _ _ < _
        omega
      rw [if_neg b1'] at e1 e2 e3
      rw [e1, e2, e3]
      refine ⟨a1, by omega, by omega, by omega, ?_⟩
      have e4 : LN Z qs (tn1 Z - g) (tkN Z qs g) = 1000 + LN Z qs (tn1 Z - (g + 1)) (tkN Z qs g) := by
        rw [LN_s (by omega)]
        rcases mnF_att (st := 1000 + LN Z qs (tn1 Z - (g + 1)) (tkN Z qs g)) (ok := mayN Z qs g (tkN Z qs g)) (v := fun k => prN Z k + LN Z qs (tn1 Z - (g + 1)) (tkN Z qs g ||| 2 ^ k)) (tn0 Z) with q | ⟨k, k1, k2, k3⟩
        · exact q
        · exfalso
          have := b2 k k1
          have k4 := k3.trans (LN_s (Z := Z) (qs := qs) (g := g) (had := tkN Z qs g) (by omega)).symm
          unfold okO at this
          rw [k2, decide_eq_true k4] at this
          cases this
      rw [a5, e4]
      omega
section
variable {N g : Nat} {Z S0 S : gS} {d : Int32} {h : Nat} {qs : Nat → qT}
theorem x_share14 {Q : Int32 × gS → Prop} (Zk : tOK Z) (K : qsOK Z (Z 5) qs) (hg : g < tn1 Z) (r7 : Nat → Nat → Int32 → gS → Option (Int32 × gS)) (C : cSit 21 Z S0 h d qs) (T : TB Z qs (g + 1) S0) (hk : ∀ S', oSame xSh S0 S' → TB Z qs g S' → Gv (r7 (xtw S0) 21 (dI g) S') Q) : Gv (fX6_share_h14 5000 r7 5000 (xtw S0) 21 (nI g) 0 S0) Q := by
  have z6 := Zk.2.1.2
  have z8 := Zk.1.2
  have p256 := pow256 z8
  refine loopG (A := gS) (fun f k S => fX6_share_h14 5000 r7 f (xtw S0) 21 (nI g) (nI k) S) (fun k S => oSame xSh S0 S ∧ TB Z qs (g + 1) S ∧ ∀ had, had < k → pcN had ≤ g → S (53 + 1 + g) had = nI (1000 * (tn1 Z - g) - LN Z qs (tn1 Z - g) had)) Q (2 ^ tn0 Z) ?_ ?_ (2 ^ tn0 Z) 0 S0 5000 (by omega) ⟨oSame.rf, T, fun _ q => absurd q (by omega)⟩ (by omega)
  · rintro f S ⟨s, T1, T2⟩
    have C' := C.sm (xSh.same s)
    have ht : xtw S = xtw S0 := by unfold xtw; rw [xSh.same s 0 7 rfl]
    have x0 : S (xtw S0) 0 = nI (tn0 Z) := by rw [← ht]; exact (C'.1 0 0 (by omega) (by omega)).trans Zk.1.1
    show Gv (fX6_share_b14 5000 r7 _ (xtw S0) 21 (nI g) (nI (2 ^ tn0 Z)) S) Q
    unfold fX6_share_b14
    rw [x0, shl_pow _ (by omega), if_pos (nI_le (Nat.le_refl _) (by omega))]
    refine hk S s (fun g' h1 h2 had h3 h4 => ?_)
    by_cases q : g' = g
    · subst q
      exact T2 had h3 h4
    · exact T1 g' (by omega) h2 had h3 h4
  · rintro f k S hk1 ⟨s, T1, T2⟩
    refine Or.inr ?_
    have C' := C.sm (xSh.same s)
    have ht : xtw S = xtw S0 := by unfold xtw; rw [xSh.same s 0 7 rfl]
    have x0 : S (xtw S0) 0 = nI (tn0 Z) := by rw [← ht]; exact (C'.1 0 0 (by omega) (by omega)).trans Zk.1.1
    obtain ⟨q1, q2⟩ := pc_all k (by omega)
    have hF : fX6_share_h14 5000 r7 (f + 1) (xtw S0) 21 (nI g) (nI k) S = if nI g < nI (pcN k) then fX6_share_b52 5000 r7 (fX6_share_h14 5000 r7 f) (xtw S0) 21 (nI g) (nI k) S else fX6_share_b34 5000 r7 (fX6_share_h14 5000 r7 f) (xtw S0) 21 (nI g) (nI k) S := by
      show fX6_share_b14 5000 r7 (fX6_share_h14 5000 r7 f) (xtw S0) 21 (nI g) (nI k) S = _
      unfold fX6_share_b14
      rw [x0, shl_pow _ (by omega), if_neg (nI_ge hk1 (by omega))]
      unfold fX6_share_b25
      rw [bnd_t x_bitCount, q1]
    by_cases hp : g < pcN k
    · refine ⟨S, ⟨s, T1, fun had h1 h2 => T2 had ?_ h2⟩, ?_⟩
      · by_cases q : had = k
        · rw [q] at h2; omega
        · omega
      · show fX6_share_h14 5000 r7 (f + 1) (xtw S0) 21 (nI g) (nI k) S = _
        rw [hF, if_pos (nI_lt hp (by omega))]
        unfold fX6_share_b52
        rw [nI_1]
    · have hb := x_bestOf Zk C' K hg hk1 (by omega) T1
      rw [ht] at hb
      refine ⟨sU S (53 + 1 + g) k (nI (1000 * (tn1 Z - g) - LN Z qs (tn1 Z - g) k)), ⟨s.up (xSh_t (by omega)), fun g' h1 h2 had h3 h4 => ?_, fun had h1 h2 => ?_⟩, ?_⟩
      · rw [sU_ne (by omega)]
        exact T1 g' h1 h2 had h3 h4
      · rw [sU_ap]
        by_cases q : had = k
        · rw [if_pos ⟨rfl, q⟩, q]
        · rw [if_neg (fun z => q z.2)]
          exact T2 had (by omega) h2
      · show fX6_share_h14 5000 r7 (f + 1) (xtw S0) 21 (nI g) (nI k) S = _
        rw [hF, if_neg (nI_nlt (by omega) (by omega))]
        unfold fX6_share_b34
        dsimp only [lt]
        rw [chk_t (inb_t (by omega) (by decide)), bnd_t hb, chk_t (inb_t (by omega) (by decide)), nI_clamp (n := g) (by omega), nI_clamp (n := k) (by omega)]
        unfold fX6_share_b52
        rw [nI_1 k]
theorem x_choice (Zk : tOK Z) (C : cSit 21 Z S h d qs) (K : qsOK Z (Z 5) qs) (hg : g < tn1 Z) {had : Nat} (hh : had < 2 ^ tn0 Z) (hp : pcN had ≤ g) (T : TB Z qs 0 S) : fX6_choice 5000 (xtw S) 21 (nI g) (nI had) S = some (owV (okO Z qs g had) (tn0 Z), S) := by
  have z6 := Zk.2.1.2
  have z8 := Zk.1.2
  have p256 := pow256 z8
  have x0 : S (xtw S) 0 = nI (tn0 Z) := (C.1 0 0 (by omega) (by omega)).trans Zk.1.1
  have T1 : TB Z qs (g + 1) S := fun g' h1 => T g' (by omega)
  have main : Gv (fX6_choice_h3 5000 5000 (xtw S) 21 (nI g) (nI had) 0 S) (fun r => ansL (okO Z qs g had) (tn0 Z) r.1 ∧ r.2 = S) := by
    refine loopG (A := Unit) (fun f k _ => fX6_choice_h3 5000 f (xtw S) 21 (nI g) (nI had) (nI k) S) (fun k _ => ∀ i, i < k → okO Z qs g had i = false) _ (tn0 Z) ?_ ?_ (tn0 Z) 0 () 5000 (by omega) (fun _ q => absurd q (by omega)) (by omega)
    · rintro f a i1
      refine ⟨(-1, S), ?_, Or.inr ⟨i1, rfl⟩, rfl⟩
      show fX6_choice_b3 5000 _ (xtw S) 21 _ _ (nI (tn0 Z)) S = _
      unfold fX6_choice_b3
      rw [x0, if_pos (nI_le (Nat.le_refl _) (by omega))]
      rfl
    · rintro f k a hk i1
      have hl := LN_le (Z := Z) (qs := qs) (tn1 Z - (g + 1)) (had ||| 2 ^ k)
      have hl2 := LN_le (Z := Z) (qs := qs) (tn1 Z - g) had
      obtain ⟨p1, p2⟩ := pr_ok Zk hk
      have hF : fX6_choice_h3 5000 (f + 1) (xtw S) 21 (nI g) (nI had) (nI k) S = if iv (mayN Z qs g had k) = 0 then fX6_choice_b50 5000 (fX6_choice_h3 5000 f) (xtw S) 21 (nI g) (nI had) (nI k) S else fX6_choice_b25 5000 (fX6_choice_h3 5000 f) (xtw S) 21 (nI g) (nI had) (nI k) S := by
        show fX6_choice_b3 5000 (fX6_choice_h3 5000 f) (xtw S) 21 (nI g) (nI had) (nI k) S = _
        unfold fX6_choice_b3
        rw [x0, if_neg (nI_ge hk (by omega))]
        unfold fX6_choice_b12
        rw [bnd_t (x_canHave Zk C K hg hk (by omega))]
      have nx : okO Z qs g had k = false → ∀ i, i < k + 1 → okO Z qs g had i = false := by
        intro q i hi
        by_cases e : i = k
        · rw [e]; exact q
        · exact i1 i (by omega)
      cases hm : mayN Z qs g had k with
      | false =>
        refine Or.inr ⟨(), nx (by unfold okO; rw [hm]; rfl), ?_⟩
        show fX6_choice_h3 5000 (f + 1) (xtw S) 21 (nI g) (nI had) (nI k) S = _
        rw [hF, hm]
        show fX6_choice_b50 5000 (fX6_choice_h3 5000 f) (xtw S) 21 (nI g) (nI had) (nI k) S = _
        unfold fX6_choice_b50
        rw [nI_1]
      | true =>
        have hF2 : fX6_choice_h3 5000 (f + 1) (xtw S) 21 (nI g) (nI had) (nI k) S = if nI (1000 * (tn1 Z - g) - (prN Z k + LN Z qs (tn1 Z - (g + 1)) (had ||| 2 ^ k))) = nI (1000 * (tn1 Z - g) - LN Z qs (tn1 Z - g) had) then fX6_choice_b47 5000 (nI k) S else fX6_choice_b50 5000 (fX6_choice_h3 5000 f) (xtw S) 21 (nI g) (nI had) (nI k) S := by
          rw [hF, hm]
          show fX6_choice_b25 5000 (fX6_choice_h3 5000 f) (xtw S) 21 (nI g) (nI had) (nI k) S = _
          unfold fX6_choice_b25
          dsimp only [lt]
          rw [bnd_t (x_worthOf Zk C hg hk hh hp T1), chk_t (inb_t (by omega) (by decide)), chk_t (inb_t (by omega) (by decide)), nI_clamp (n := g) (by omega), nI_clamp (n := had) (by omega)]
          simp only [T g (Nat.zero_le _) hg had hh hp]
        by_cases hv : prN Z k + LN Z qs (tn1 Z - (g + 1)) (had ||| 2 ^ k) = LN Z qs (tn1 Z - g) had
        · refine Or.inl ⟨(nI k, S), ?_, Or.inl ⟨k, hk, by unfold okO; rw [hm, decide_eq_true hv]; rfl, i1, rfl⟩, rfl⟩
          show fX6_choice_h3 5000 (f + 1) (xtw S) 21 (nI g) (nI had) (nI k) S = _
          rw [hF2, hv, if_pos rfl]
          rfl
        · refine Or.inr ⟨(), nx (by unfold okO; rw [hm, decide_eq_false hv]; rfl), ?_⟩
          show fX6_choice_h3 5000 (f + 1) (xtw S) 21 (nI g) (nI had) (nI k) S = _
          rw [hF2, if_neg (fun q => ?_)]
          · unfold fX6_choice_b50
            rw [nI_1]
          · have := (nI_eq (by omega) (by omega)).mp q
            omega
  obtain ⟨⟨v, S'⟩, r1, r2, r3⟩ := main
  dsimp only at r2 r3
  subst r3
  unfold fX6_choice fX6_choice_b0
  rw [r1, owV_an r2]
end
end
