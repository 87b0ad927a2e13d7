theorem mSit.gr {Z S : gS} {h g : Nat} {d x : Int32} {e : Nat → Int32} {qs : Nat → qT} (M : mSit Z S h d e qs) : mSit Z (sU S 18 g x) h d (upE e g x) qs := by
  obtain ⟨m1, m2, m3, m4, m5⟩ := M
  refine ⟨m1.on (fun i j h1 h2 => sU_n (by omega)), fun g' hg' => ?_, by rw [sU_n (by omega)]; exact m3, by rw [sU_n (by omega)]; exact m4, fun g' hg' => ?_⟩
  · rw [sU_ap]
    unfold upE
    by_cases q : g' = g
    · rw [if_pos ⟨rfl, q⟩, if_pos q]
    · rw [if_neg (fun z => q z.2), if_neg q]
      exact m2 g' hg'
  · rw [sU_ne (by decide), sU_ne (by decide), sU_ne (by decide), sU_ne (by decide)]
    exact m5 g' hg'
noncomputable def m6 (i j : Nat) : Bool := m5 i j || i == 52 || (i == 99 && j == 54)
theorem m6_f {i j : Nat} (h : m6 i j = false) : m5 i j = false ∧ i ≠ 52 ∧ ¬ (i = 99 ∧ j = 54) := by
  unfold m6 at h
  rw [Bool.or_eq_false_iff, Bool.or_eq_false_iff] at h
  refine ⟨h.1.1, fun q => ?_, fun q => ?_⟩
  · have := h.1.2
    rw [q] at this
    cases this
  · have := h.2
    rw [q.1, q.2] at this
    cases this
theorem m6_n {i j : Nat} (h : mScr i j = false) : m6 i j = false := by
  cases hh : m6 i j with
  | false => rfl
  | true =>
    exfalso
    unfold m6 m5 at hh
    simp only [Bool.or_eq_true, Bool.and_eq_true, beq_iff_eq] at hh
    rcases hh with ((((r | r) | r) | ⟨r, r2 | r2⟩) | r) | ⟨r, r2⟩
    · rw [r] at h; cases h
    · rw [r] at h; cases h
    · rw [r] at h; cases h
    · rw [r, r2] at h; cases h
    · rw [r, r2] at h; cases h
    · rw [r] at h; cases h
    · rw [r, r2] at h; cases h
theorem m6.same {S S' : gS} (s : oSame m6 S S') : mSame S S' := fun i j h => s i j (m6_n h)
section
variable {Z S S1 : gS} {d : Int32} {h g n v : Nat} {qs : Nat → qT} {wh wn : Nat → Nat} {sn : Nat → Int32}
def tfM (F : Nat → Bool) (j : Nat) (S : gS) : Prop := S 99 54 = nI (cntB F j) ∧ ∀ i, i < cntB F j → S 52 i = nI (fI F i)
/-- all but the greed of g is as it was -/
def gsM (g : Nat) (S1 S : gS) : Prop := ∀ i j, m6 i j = false → ¬ (i = 18 ∧ j = g) → S i j = S1 i j
theorem gsM.sit {x : Int32} {S1 S : gS} (s : gsM g S1 S) (M : mSit Z S1 h d (Z 5) qs) : mSit Z (sU S 18 g x) h d (upE (Z 5) g x) qs := by
  refine (M.gr (g := g) (x := x)).on (fun i j hij => ?_)
  rw [sU_ap, sU_ap]
  by_cases q : i = 18 ∧ j = g
  · rw [if_pos q, if_pos q]
  · rw [if_neg q, if_neg q]
    exact s i j (m6_n hij) q
theorem m_fits26 {F : Nat → Bool} {r7 : Int32 → gS → Option (Int32 × gS)} (hF : F = fitB Z d h qs n wh wn sn) (Zk : tOK Z) (M : mSit Z S1 h d (Z 5) qs) (K : qsOK Z (Z 5) qs) (w41 : S1 99 41 = -1) (hk : seK Z n wh wn) (X : seM n wh wn sn S1) (h9 : h ≤ 999) (hg : g < tn1 Z) (s : oSame m6 S1 S) (tf : tfM F (10 * g) S) : ∃ S', oSame m6 S1 S' ∧ tfM F (10 * (g + 1)) S' ∧ fX12_tellFits_b17 5000 r7 (nI g) S = r7 (nI (g + 1)) S' := by
  have z6 := Zk.2.1.2
  have g18 : S1 18 g = Z 5 g := M.2.1 g hg
  have main : ∀ (m v f : Nat) (S : gS), v + m = 10 → m < f → gsM g S1 S → tfM F (10 * g + v) S → ∃ S', oSame m6 S1 S' ∧ tfM F (10 * (g + 1)) S' ∧ fX12_tellFits_h26 5000 r7 f (nI g) (Z 5 g) (nI v) S = r7 (nI (g + 1)) S' := by
    intro m
    induction m with
    | zero =>
      intro v f S hv hf s tf
      obtain ⟨f, rfl⟩ : ∃ f', f = f' + 1 := ⟨f - 1, by omega⟩
      obtain rfl : v = 10 := by omega
      refine ⟨sU S 18 g (Z 5 g), fun i j hij => ?_, ⟨?_, fun i hi => ?_⟩, ?_⟩
      · rw [sU_ap]
        by_cases q : i = 18 ∧ j = g
        · rw [if_pos q, q.1, q.2]; exact g18.symm
        · rw [if_neg q]; exact s i j hij q
      · rw [sU_ne (by decide)]; exact tf.1
      · rw [sU_ne (by decide)]; exact tf.2 i hi
      · show fX12_tellFits_b26 5000 r7 _ (nI g) (Z 5 g) (nI 10) S = _
        unfold fX12_tellFits_b26
        rw [if_pos (by decide)]
        unfold fX12_tellFits_b85
        dsimp only [lt]
        rw [chk_t (inb_t (by omega) (by decide)), nI_clamp (n := g) (by omega), nI_1 g]
    | succ m ih =>
      intro v f S hv hf s tf
      obtain ⟨f, rfl⟩ : ∃ f', f = f' + 1 := ⟨f - 1, by omega⟩
      obtain ⟨S2, hS2⟩ : ∃ z, z = sU S 18 g (nI v) := ⟨_, rfl⟩
      have M2 : mSit Z S2 h d (upE (Z 5) g (nI v)) qs := by rw [hS2]; exact s.sit M
      have s2 : gsM g S1 S2 := fun i j a b => by rw [hS2, sU_n b]; exact s i j a b
      have tf2 : tfM F (10 * g + v) S2 := by
        rw [hS2]
        refine ⟨?_, fun i hi => ?_⟩
        · rw [sU_ne (by decide)]; exact tf.1
        · rw [sU_ne (by decide)]; exact tf.2 i hi
      have c60 := cntB_le (c := F) (10 * g + v)
      have eC : cntB F (10 * g + (v + 1)) = cntB F (10 * g + v) + if F (10 * g + v) = true then 1 else 0 := rfl
      have eF : F (10 * g + v) = (!(decide (nI v = Z 5 g)) && asB Z d h qs n wh wn sn (upE (Z 5) g (nI v))) := by
        rw [hF, asB_one Zk hg hk]
        unfold fitB
        rw [show (10 * g + v) / 10 = g by omega, show (10 * g + v) % 10 = v by omega]
      have hF0 : fX12_tellFits_h26 5000 r7 (f + 1) (nI g) (Z 5 g) (nI v) S = if nI v = Z 5 g then fX12_tellFits_h26 5000 r7 f (nI g) (Z 5 g) (nI (v + 1)) S2 else fX12_tellFits_b44 5000 r7 (fX12_tellFits_h26 5000 r7 f) (nI g) (Z 5 g) (nI v) S2 := by
        show fX12_tellFits_b26 5000 r7 (fX12_tellFits_h26 5000 r7 f) (nI g) (Z 5 g) (nI v) S = _
        unfold fX12_tellFits_b26
        rw [if_neg (show ¬ (9 : Int32) < nI v from nI_nlt (a := 9) (by omega) (by decide))]
        unfold fX12_tellFits_b32
        dsimp only [lt]
        rw [chk_t (inb_t (by omega) (by decide)), nI_clamp (n := g) (by omega), ← hS2]
        unfold fX12_tellFits_b79
        rw [nI_1 v]
      have b79 : ∀ S', fX12_tellFits_b79 5000 r7 (fX12_tellFits_h26 5000 r7 f) (nI g) (Z 5 g) (nI v) S' = fX12_tellFits_h26 5000 r7 f (nI g) (Z 5 g) (nI (v + 1)) S' := by
        intro S'
        unfold fX12_tellFits_b79
        rw [nI_1 v]
      have stay : ∀ S', F (10 * g + v) = false → tfM F (10 * g + v) S' → tfM F (10 * g + (v + 1)) S' := by
        intro S' a b
        rw [if_neg (by rw [a]; decide)] at eC
        unfold tfM
        rw [eC]
        exact b
      by_cases hq : nI v = Z 5 g
      · rw [decide_eq_true hq] at eF
        rw [hF0, if_pos hq]
        exact ih (v + 1) f S2 (by omega) (by omega) s2 (stay S2 eF tf2)
      · rw [decide_eq_false hq] at eF
        have eF : F (10 * g + v) = asB Z d h qs n wh wn sn (upE (Z 5) g (nI v)) := eF
        have X2 : seM n wh wn sn S2 := ⟨(s2 99 40 rfl (by omega)).trans X.1, fun i hi => by
          obtain ⟨a, b, c⟩ := X.2 i hi
          exact ⟨(s2 48 i rfl (by omega)).trans a, (s2 49 i rfl (by omega)).trans b, (s2 50 i rfl (by omega)).trans c⟩⟩
        obtain ⟨S3, a1, a2⟩ := m_isAsSeen Zk K.h M2 ((s2 99 41 rfl (by omega)).trans w41) h9 hk X2
        have s3 : gsM g S1 S3 := fun i j a b => (a2 i j (m6_f a).1).trans (s2 i j a b)
        have tf3 : tfM F (10 * g + v) S3 := ⟨(a2 99 54 rfl).trans tf2.1, fun i hi => (a2 52 i rfl).trans (tf2.2 i hi)⟩
        have hF1 : fX12_tellFits_h26 5000 r7 (f + 1) (nI g) (Z 5 g) (nI v) S = if iv (F (10 * g + v)) = 0 then fX12_tellFits_h26 5000 r7 f (nI g) (Z 5 g) (nI (v + 1)) S3 else fX12_tellFits_b54 5000 r7 (fX12_tellFits_h26 5000 r7 f) (nI g) (Z 5 g) (nI v) S3 := by
          rw [hF0, if_neg hq]
          unfold fX12_tellFits_b44
          rw [bnd_t a1, eF]
          unfold fX12_tellFits_b51
          rw [b79]
        cases hs : F (10 * g + v) with
        | false =>
          rw [hF1, hs]
          exact ih (v + 1) f S3 (by omega) (by omega) s3 (stay S3 hs tf3)
        | true =>
          rw [if_pos hs] at eC
          have hat : fI F (cntB F (10 * g + v)) = 10 * g + v := fI_at (by omega) hs
          rw [hF1, hs]
          have b54 : fX12_tellFits_b54 5000 r7 (fX12_tellFits_h26 5000 r7 f) (nI g) (Z 5 g) (nI v) S3 = fX12_tellFits_h26 5000 r7 f (nI g) (Z 5 g) (nI (v + 1)) (sU (sU S3 52 (cntB F (10 * g + v)) (nI (10 * g + v))) 99 54 (nI (cntB F (10 * g + v) + 1))) := by
            unfold fX12_tellFits_b54
            dsimp only [lt]
            rw [tf3.1, chk_t (inb_t (by omega) (by decide)), nI_clamp (n := cntB F (10 * g + v)) (by omega), show (10 : Int32) = nI 10 from rfl, pk_mul, nI_add, sU_ne (by decide), tf3.1, nI_1 (cntB F (10 * g + v)), b79]
          show ∃ S', _ ∧ _ ∧ fX12_tellFits_b54 5000 r7 (fX12_tellFits_h26 5000 r7 f) (nI g) (Z 5 g) (nI v) S3 = _
          rw [b54]
          refine ih (v + 1) f _ (by omega) (by omega) (fun i j a b => ?_) ⟨?_, fun i hi => ?_⟩
          · have := m6_f a
            rw [sU_n (by omega), sU_n (by omega)]
            exact s3 i j a b
          · rw [sU_ap, if_pos ⟨rfl, rfl⟩, eC]
          · rw [sU_ne (by decide), sU_ap]
            by_cases q : i = cntB F (10 * g + v)
            · rw [if_pos ⟨rfl, q⟩, q, hat]
            · rw [if_neg (fun z => q z.2)]
              exact tf3.2 i (by omega)
  have e : fX12_tellFits_b17 5000 r7 (nI g) S = fX12_tellFits_h26 5000 r7 5000 (nI g) (Z 5 g) 0 S := by
    unfold fX12_tellFits_b17
    rw [chk_t (inb_t (by omega) (by decide)), nI_clamp (n := g) (by omega), s 18 g rfl, g18]
  rw [e]
  exact main 10 0 5000 S (by omega) (by omega) (fun i j a _ => s i j a) tf
theorem m_tellFits {F : Nat → Bool} (hF : F = fitB Z d h qs n wh wn sn) (Zk : tOK Z) (M : mSit Z S1 h d (Z 5) qs) (K : qsOK Z (Z 5) qs) (w41 : S1 99 41 = -1) (hk : seK Z n wh wn) (X : seM n wh wn sn S1) (h9 : h ≤ 999) : ∃ S', fX12_tellFits 5000 S1 = some (0, S') ∧ oSame m6 S1 S' ∧ tfM F (10 * tn1 Z) S' := by
  have z6 := Zk.2.1.2
  have main : ∀ (m g f : Nat) (S : gS), g + m = tn1 Z → m < f → oSame m6 S1 S → tfM F (10 * g) S → ∃ S', fX12_tellFits_h7 5000 f (nI g) S = some (0, S') ∧ oSame m6 S1 S' ∧ tfM F (10 * tn1 Z) S' := by
    intro m
    induction m with
    | zero =>
      intro g f S hg hf s tf
      obtain ⟨f, rfl⟩ : ∃ f', f = f' + 1 := ⟨f - 1, by omega⟩
      obtain rfl : g = tn1 Z := by omega
      refine ⟨S, ?_, s, tf⟩
      show fX12_tellFits_b7 5000 _ (nI (tn1 Z)) S = _
      unfold fX12_tellFits_b7
      rw [s 5 1 rfl, show S1 5 1 = nI (tn1 Z) from M.1.2.1, if_pos (nI_le (Nat.le_refl _) (by omega))]
      rfl
    | succ m ih =>
      intro g f S hg hf s tf
      obtain ⟨f, rfl⟩ : ∃ f', f = f' + 1 := ⟨f - 1, by omega⟩
      obtain ⟨S2, a1, a2, a3⟩ := m_fits26 (r7 := fX12_tellFits_h7 5000 f) hF Zk M K w41 hk X h9 (by omega) s tf
      obtain ⟨S', b1, b2, b3⟩ := ih (g + 1) f S2 (by omega) (by omega) a1 a2
      refine ⟨S', ?_, b2, b3⟩
      show fX12_tellFits_b7 5000 (fX12_tellFits_h7 5000 f) (nI g) S = _
      unfold fX12_tellFits_b7
      rw [s 5 1 rfl, show S1 5 1 = nI (tn1 Z) from M.1.2.1, if_neg (nI_ge (by omega) (by omega)), a3]
      exact b1
  exact main (tn1 Z) 0 5000 (sU S1 99 54 0) (by omega) (by omega) (oSame.rf.up rfl) ⟨by rw [sU_ap, if_pos ⟨rfl, rfl⟩]; rfl, fun i hi => absurd hi (Nat.not_lt_zero i)⟩
end
