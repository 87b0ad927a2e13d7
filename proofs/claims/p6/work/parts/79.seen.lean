noncomputable def m5 (i j : Nat) : Bool := i == 42 || i == 43 || i == 51 || (i == 99 && (j == 44 || j == 45))
theorem m5_f {i j : Nat} (h : m5 i j = false) : i ≠ 42 ∧ i ≠ 43 ∧ i ≠ 51 ∧ ¬ (i = 99 ∧ (j = 44 ∨ j = 45)) := by
  unfold m5 at h
  simp only [Bool.or_eq_false_iff, Bool.and_eq_false_iff, beq_eq_false_iff_ne] at h
  omega
theorem m5.same {S S' : gS} (s : oSame m5 S S') : mSame S S' := by
  intro i j h
  refine s i j ?_
  cases hh : m5 i j with
  | false => rfl
  | true =>
    exfalso
    unfold m5 at hh
    simp only [Bool.or_eq_true, Bool.and_eq_true, beq_iff_eq] at hh
    rcases hh with ((r | r) | r) | ⟨r, r2 | r2⟩
    · rw [r] at h; cases h
    · rw [r] at h; cases h
    · rw [r] at h; cases h
    · rw [r, r2] at h; cases h
    · rw [r, r2] at h; cases h
noncomputable def mxN (wn : Nat → Nat) : Nat → Nat
  | 0 => 0
  | k + 1 => if mxN wn k < wn k then wn k else mxN wn k
theorem mxN_le {wn : Nat → Nat} : ∀ k, (∀ i, i < k → wn i ≤ 20) → mxN wn k ≤ 20 ∧ ∀ i, i < k → wn i ≤ mxN wn k := by
  intro k
  induction k with
  | zero => intro _; exact ⟨Nat.zero_le _, fun i h => absurd h (by omega)⟩
  | succ k ih =>
    intro h
    obtain ⟨a, b⟩ := ih (fun i hi => h i (by omega))
    have hk := h k (by omega)
    have e : mxN wn (k + 1) = if mxN wn k < wn k then wn k else mxN wn k := rfl
    have key : ∀ z, mxN wn k ≤ z → wn k ≤ z → ∀ i, i < k + 1 → wn i ≤ z := by
      intro z z1 z2 i hi
      by_cases q : i = k
      · rw [q]; exact z2
      · have := b i (by omega)
        omega
    by_cases q : mxN wn k < wn k
    · rw [if_pos q] at e
      rw [e]
      exact ⟨hk, key _ (by omega) (Nat.le_refl _)⟩
    · rw [if_neg q] at e
      rw [e]
      exact ⟨a, key _ (Nat.le_refl _) (by omega)⟩
section
variable {Z S : gS} {d : Int32} {h g n v : Nat} {e : Nat → Int32} {qs : Nat → qT} {wh wn : Nat → Nat} {sn : Nat → Int32}
theorem m_seen54 {t : Nat} {x1 : Int32} {r42 : Int32 → Int32 → Int32 → gS → Option (Int32 × gS)} (z6 : tn1 Z ≤ 6) (hk : seK Z n wh wn) (X : seM n wh wn sn S) (ht : t ≤ 20) : fX12_isAsSeen_b51 5000 r42 x1 1 (nI t) S = fX12_isAsSeen_b112 5000 r42 x1 (iv (alB (fun i => !(decide (wn i = t)) || decide (S 32 (wh i) = sn i)) n)) (nI t) S := by
  have k8 := hk.1
  have main : ∀ (m k f : Nat), k + m = n → m < f → fX12_isAsSeen_h54 5000 r42 f x1 (iv (alB (fun i => !(decide (wn i = t)) || decide (S 32 (wh i) = sn i)) k)) (nI t) (nI k) S = fX12_isAsSeen_b112 5000 r42 x1 (iv (alB (fun i => !(decide (wn i = t)) || decide (S 32 (wh i) = sn i)) n)) (nI t) S := by
    intro m
    induction m with
    | zero =>
      intro k f hkm hf
      obtain ⟨f, rfl⟩ : ∃ f', f = f' + 1 := ⟨f - 1, by omega⟩
      obtain rfl : k = n := by omega
      show fX12_isAsSeen_b54 5000 r42 _ x1 _ (nI t) (nI k) S = _
      unfold fX12_isAsSeen_b54
      rw [X.1, if_pos (nI_le (Nat.le_refl _) (by omega))]
    | succ m ih =>
      intro k f hkm hf
      obtain ⟨f, rfl⟩ : ∃ f', f = f' + 1 := ⟨f - 1, by omega⟩
      obtain ⟨x1', x2, x3⟩ := X.2 k (by omega)
      obtain ⟨y1, y2⟩ := hk.2 k (by omega)
      have hn := ih (k + 1) f (by omega) (by omega)
      have eA : alB (fun i => !(decide (wn i = t)) || decide (S 32 (wh i) = sn i)) (k + 1) = (alB (fun i => !(decide (wn i = t)) || decide (S 32 (wh i) = sn i)) k && (!(decide (wn k = t)) || decide (S 32 (wh k) = sn k))) := rfl
      rw [eA] at hn
      show fX12_isAsSeen_b54 5000 r42 (fX12_isAsSeen_h54 5000 r42 f) x1 _ (nI t) (nI k) S = _
      unfold fX12_isAsSeen_b54
      rw [X.1, if_neg (nI_ge (by omega) (by omega))]
      unfold fX12_isAsSeen_b63
      have b104 : fX12_isAsSeen_b104 5000 r42 (fX12_isAsSeen_h54 5000 r42 f) x1 (nI t) (nI k) S = fX12_isAsSeen_h54 5000 r42 f x1 (iv false) (nI t) (nI (k + 1)) S := by
        unfold fX12_isAsSeen_b104 fX12_isAsSeen_b105
        rw [nI_1 k]
        rfl
      have b100 : fX12_isAsSeen_b100 5000 r42 (fX12_isAsSeen_h54 5000 r42 f) x1 (nI t) (nI k) S = fX12_isAsSeen_h54 5000 r42 f x1 (iv true) (nI t) (nI (k + 1)) S := by
        unfold fX12_isAsSeen_b100 fX12_isAsSeen_b105
        rw [nI_1 k]
        rfl
      cases hb : alB (fun i => !(decide (wn i = t)) || decide (S 32 (wh i) = sn i)) k with
      | false =>
        rw [hb, Bool.false_and] at hn
        show fX12_isAsSeen_b104 5000 r42 (fX12_isAsSeen_h54 5000 r42 f) x1 (nI t) (nI k) S = _
        rw [b104]
        exact hn
      | true =>
        rw [hb, Bool.true_and] at hn
        show fX12_isAsSeen_b67 5000 r42 (fX12_isAsSeen_h54 5000 r42 f) x1 (nI t) (nI k) S = _
        unfold fX12_isAsSeen_b67
        rw [chk_t (inb_t (by omega) (by decide)), nI_clamp (n := k) (by omega), x2]
        by_cases q : wn k = t
        · rw [decide_eq_true q] at hn
          rw [q, if_pos rfl]
          unfold fX12_isAsSeen_b78
          rw [chk_t (inb_t (by omega) (by decide)), nI_clamp (n := k) (by omega), x1', chk_t (inb_t (by omega) (by decide)), chk_t (inb_t (by omega) (by decide)), nI_clamp (n := wh k) (by omega), x3]
          by_cases q2 : S 32 (wh k) = sn k
          · rw [decide_eq_true q2] at hn
            rw [if_pos q2, b100]
            exact hn
          · rw [decide_eq_false q2] at hn
            rw [if_neg q2, b104]
            exact hn
        · rw [decide_eq_false q] at hn
          rw [if_neg (fun z => q ((nI_eq (by omega) (by omega)).mp z)), b100]
          exact hn
  exact main n 0 5000 (by omega) (by omega)
theorem m_isAsSeen (Zk : tOK Z) (K : qsH Z qs) (M : mSit Z S h d e qs) (w41 : S 99 41 = -1) (h9 : h ≤ 999) (hk : seK Z n wh wn) (X : seM n wh wn sn S) : ∃ S', fX12_isAsSeen 5000 S = some (iv (asB Z d h qs n wh wn sn e), S') ∧ oSame m5 S S' := by
  have z6 := Zk.2.1.2
  have k8 := hk.1
  obtain ⟨mx20, mxle⟩ := mxN_le (wn := wn) n (fun i hi => (hk.2 i hi).2)
  obtain ⟨S2, p1, p2, p3⟩ := q_pk (N := 5000) (S1 := S) (nd := 51) (Or.inr rfl) (by decide)
  have s2 : mSame S S2 := fun i j hij => p2 i j (fun q => by rw [q] at hij; cases hij)
  have M2 := M.on s2
  have w2 : S2 99 41 = -1 := (p2 99 41 (by decide)).trans w41
  have X2 : seM n wh wn sn S2 := ⟨(p2 99 40 (by decide)).trans X.1, fun i hi => by
    obtain ⟨a, b, c⟩ := X.2 i hi
    exact ⟨(p2 48 i (by decide)).trans a, (p2 49 i (by decide)).trans b, (p2 50 i (by decide)).trans c⟩⟩
  have bT : ∀ t, alB (fun i => !(decide (wn i < t)) || decide (sq Z d h qs (e (wh i)) (wh i) (wn i) = sn i)) n = true ↔ ∀ i, i < n → wn i < t → sq Z d h qs (e (wh i)) (wh i) (wn i) = sn i := by
    intro t
    rw [alB_t]
    refine ⟨fun a i hi hl => ?_, fun a i hi => ?_⟩
    · have := a i hi
      rw [decide_eq_true hl] at this
      exact of_decide_eq_true this
    · by_cases hl : wn i < t
      · rw [decide_eq_true (a i hi hl), Bool.or_true]
      · rw [decide_eq_false hl]; rfl
  have aT : asB Z d h qs n wh wn sn e = true ↔ ∀ i, i < n → sq Z d h qs (e (wh i)) (wh i) (wn i) = sn i := by
    unfold asB
    rw [alB_t]
    exact ⟨fun a i hi => of_decide_eq_true (a i hi), fun a i hi => decide_eq_true (a i hi)⟩
  have fin : ∀ (b : Bool) (S3 : gS), b = asB Z d h qs n wh wn sn e → oSame mHo S2 S3 → Gv (fX12_isAsSeen_b122 5000 (iv b) S3) (fun r => r.1 = iv (asB Z d h qs n wh wn sn e) ∧ oSame m5 S r.2) := by
    intro b S3 hb s3
    obtain ⟨S4, u1, u2⟩ := p3 S3 (fun j => s3 51 j rfl)
    refine ⟨(iv b, S4), ?_, by rw [hb], fun i j hij => ?_⟩
    · unfold fX12_isAsSeen_b122
      rw [bnd_t u1, chk_t zb_iv]
    · show S4 i j = S i j
      rw [u2 i j]
      obtain ⟨m1, m2, m3, m4⟩ := m5_f hij
      by_cases q : mPk i j = true
      · rw [if_pos q]
      · rw [if_neg q, s3 i j ?_, p2 i j m3]
        rw [mPk_t] at q
        cases hh : mHo i j with
        | false => rfl
        | true =>
          exfalso
          unfold mHo at hh
          simp only [Bool.or_eq_true, Bool.and_eq_true, beq_iff_eq, decide_eq_true_iff] at hh
          omega
  have outer : Gv (fX12_isAsSeen_h42 5000 5000 (nI (mxN wn n)) 1 0 S2) (fun r => r.1 = iv (asB Z d h qs n wh wn sn e) ∧ oSame m5 S r.2) := by
    have e0 : alB (fun i => !(decide (wn i < 0)) || decide (sq Z d h qs (e (wh i)) (wh i) (wn i) = sn i)) n = true := (bT 0).mpr (fun i hi hl => absurd hl (by omega))
    rw [show (1 : Int32) = iv (alB (fun i => !(decide (wn i < 0)) || decide (sq Z d h qs (e (wh i)) (wh i) (wn i) = sn i)) n) by rw [e0]; rfl]
    refine loopG (A := gS) (fun f t S3 => fX12_isAsSeen_h42 5000 f (nI (mxN wn n)) (iv (alB (fun i => !(decide (wn i < t)) || decide (sq Z d h qs (e (wh i)) (wh i) (wn i) = sn i)) n)) (nI t) S3) (fun t S3 => mSit Z S3 (h + t) d e (fun g => trj Z (e g) d (wetZ Z) h (qs g) t) ∧ oSame mHo S2 S3) _ (mxN wn n + 1) ?_ ?_ (mxN wn n + 1) 0 S2 5000 (by omega) ⟨M2, oSame.rf⟩ (by omega)
    · rintro f S3 ⟨i1, i2⟩
      show Gv (fX12_isAsSeen_b42 5000 _ _ _ (nI (mxN wn n + 1)) S3) _
      unfold fX12_isAsSeen_b42
      rw [if_pos (nI_lt (by omega) (by omega))]
      refine fin _ S3 ?_ i2
      rw [Bool.eq_iff_iff, bT, aT]
      exact ⟨fun a i hi => a i hi (by have := mxle i hi; omega), fun a i hi _ => a i hi⟩
    · rintro f t S3 ht ⟨i1, i2⟩
      have hF : fX12_isAsSeen_h42 5000 (f + 1) (nI (mxN wn n)) (iv (alB (fun i => !(decide (wn i < t)) || decide (sq Z d h qs (e (wh i)) (wh i) (wn i) = sn i)) n)) (nI t) S3 = fX12_isAsSeen_b47 5000 (fX12_isAsSeen_h42 5000 f) (nI (mxN wn n)) (iv (alB (fun i => !(decide (wn i < t)) || decide (sq Z d h qs (e (wh i)) (wh i) (wn i) = sn i)) n)) (nI t) S3 := by
        show fX12_isAsSeen_b42 5000 (fX12_isAsSeen_h42 5000 f) _ _ (nI t) S3 = _
        unfold fX12_isAsSeen_b42
        rw [if_neg (nI_nlt (by omega) (by omega))]
      have hb := bT t
      cases hc : alB (fun i => !(decide (wn i < t)) || decide (sq Z d h qs (e (wh i)) (wh i) (wn i) = sn i)) n with
      | false =>
        refine Or.inl ?_
        rw [hc] at hF
        show Gv (fX12_isAsSeen_h42 5000 (f + 1) (nI (mxN wn n)) (iv false) (nI t) S3) _
        rw [hF]
        show Gv (fX12_isAsSeen_b122 5000 (iv false) S3) _
        refine fin false S3 ?_ i2
        cases ha : asB Z d h qs n wh wn sn e with
        | false => rfl
        | true =>
          exfalso
          have := hb.mpr (fun i hi _ => aT.mp ha i hi)
          rw [hc] at this
          cases this
      | true =>
        rw [hc] at hb
        have X3 : seM n wh wn sn S3 := ⟨(i2 99 40 rfl).trans X2.1, fun i hi => by
          obtain ⟨a, b, c⟩ := X2.2 i hi
          exact ⟨(i2 48 i rfl).trans a, (i2 49 i rfl).trans b, (i2 50 i rfl).trans c⟩⟩
        have h54 := m_seen54 (x1 := nI (mxN wn n)) (r42 := fX12_isAsSeen_h42 5000 f) (t := t) z6 hk X3 (by omega)
        obtain ⟨S4, r1, r2, -, r4⟩ := m_step1 (N := 5000) Zk (K.tr (h := h) (d := d) (wf := wetZ Z) (e := e) t) (by omega) (by decide) i1 ((i2 99 41 rfl).trans w2)
        refine Or.inr ⟨S4, ⟨r2, i2.tr r4⟩, ?_⟩
        rw [hc] at hF
        show fX12_isAsSeen_h42 5000 (f + 1) (nI (mxN wn n)) (iv true) (nI t) S3 = _
        rw [hF]
        show fX12_isAsSeen_b51 5000 (fX12_isAsSeen_h42 5000 f) (nI (mxN wn n)) 1 (nI t) S3 = _
        rw [h54]
        unfold fX12_isAsSeen_b112
        rw [bnd_t r1, nI_1 t]
        have eB : alB (fun i => !(decide (wn i = t)) || decide (S3 32 (wh i) = sn i)) n = alB (fun i => !(decide (wn i < t + 1)) || decide (sq Z d h qs (e (wh i)) (wh i) (wn i) = sn i)) n := by
          rw [Bool.eq_iff_iff, bT, alB_t]
          have hb' := hb.mp rfl
          refine ⟨fun a i hi hl => ?_, fun a i hi => ?_⟩
          · by_cases q : wn i = t
            · have := a i hi
              rw [decide_eq_true q] at this
              have := of_decide_eq_true this
              rw [(i1.2.2.2.2 (wh i) (hk.2 i hi).1).1, ← q] at this
              exact this
            · exact hb' i hi (by omega)
          · by_cases q : wn i = t
            · have := a i hi (by omega)
              rw [decide_eq_true q, (i1.2.2.2.2 (wh i) (hk.2 i hi).1).1, ← q]
              exact decide_eq_true this
            · rw [decide_eq_false q]; rfl
        rw [eB]
  have inner : ∀ (m k f : Nat), k + m = n → m < f → fX12_isAsSeen_h13 5000 f (nI (mxN wn k)) (nI k) S2 = fX12_isAsSeen_h42 5000 5000 (nI (mxN wn n)) 1 0 S2 := by
    intro m
    induction m with
    | zero =>
      intro k f hkm hf
      obtain ⟨f, rfl⟩ : ∃ f', f = f' + 1 := ⟨f - 1, by omega⟩
      obtain rfl : k = n := by omega
      show fX12_isAsSeen_b13 5000 _ _ (nI k) S2 = _
      unfold fX12_isAsSeen_b13
      rw [X2.1, if_pos (nI_le (Nat.le_refl _) (by omega))]
      rfl
    | succ m ih =>
      intro k f hkm hf
      obtain ⟨f, rfl⟩ : ∃ f', f = f' + 1 := ⟨f - 1, by omega⟩
      obtain ⟨x1', x2, x3⟩ := X2.2 k (by omega)
      obtain ⟨y1, y2⟩ := hk.2 k (by omega)
      obtain ⟨l1, l2⟩ := mxN_le (wn := wn) k (fun i hi => (hk.2 i (by omega)).2)
      rw [← ih (k + 1) f (by omega) (by omega)]
      show fX12_isAsSeen_b13 5000 (fX12_isAsSeen_h13 5000 f) _ (nI k) S2 = fX12_isAsSeen_h13 5000 f (nI (if mxN wn k < wn k then wn k else mxN wn k)) (nI (k + 1)) S2
      unfold fX12_isAsSeen_b13
      rw [X2.1, if_neg (nI_ge (by omega) (by omega))]
      unfold fX12_isAsSeen_b21
      rw [chk_t (inb_t (by omega) (by decide)), nI_clamp (n := k) (by omega), x2, nI_1 k]
      by_cases q : mxN wn k < wn k
      · rw [if_pos q, if_pos (nI_lt q (by omega))]
      · rw [if_neg q, if_neg (nI_nlt (by omega) (by omega))]
  obtain ⟨⟨b, S'⟩, r1, r2, r3⟩ := outer
  dsimp only at r2 r3
  refine ⟨S', ?_, r3⟩
  unfold fX12_isAsSeen fX12_isAsSeen_b0
  rw [bnd_t p1, ← r2]
  exact (inner n 0 5000 (by omega) (by omega)).trans r1
end
