theorem dv10 : ∀ f, f < 60 → nI f / 10 = nI (f / 10) ∧ nI f - nI (f / 10) * 10 = nI (f % 10) := by decide +kernel
theorem pc_pos : ∀ x, x < 256 → 0 < x → 1 ≤ pcN x := by decide +kernel
theorem fI_lt {c : Nat → Bool} {i : Nat} : ∀ m, m ≤ 60 → i < cntB c m → fI c i < m := by
  intro m
  induction m with
  | zero => intro _ h; exact absurd h (Nat.not_lt_zero _)
  | succ m ih =>
    intro hm h
    have e : cntB c (m + 1) = cntB c m + if c m = true then 1 else 0 := rfl
    by_cases q : i < cntB c m
    · have := ih (by omega) q
      omega
    · by_cases hc : c m = true
      · rw [if_pos hc] at e
        have hi : i = cntB c m := by omega
        rw [hi, fI_at (by omega) hc]
        omega
      · rw [if_neg hc] at e
        omega
/-- the first hour behind which the most is unlike -/
noncomputable def bsN (u : Nat → Nat) : Nat → Nat
  | 0 => 0
  | k + 1 => if k = 0 then 1 else if u (k + 1) ≤ u (bsN u k) then bsN u k else k + 1
theorem bsN_le {u : Nat → Nat} : ∀ k, bsN u k ≤ k ∧ (0 < k → 1 ≤ bsN u k) := by
  intro k
  induction k with
  | zero => exact ⟨Nat.le_refl _, fun h => absurd h (by omega)⟩
  | succ k ih =>
    have e : bsN u (k + 1) = if k = 0 then 1 else if u (k + 1) ≤ u (bsN u k) then bsN u k else k + 1 := rfl
    by_cases h0 : k = 0
    · rw [if_pos h0] at e; omega
    · rw [if_neg h0] at e
      by_cases h1 : u (k + 1) ≤ u (bsN u k)
      · rw [if_pos h1] at e; omega
      · rw [if_neg h1] at e; omega
section
variable {Z S S1 S3 : gS} {d : Int32} {h n c : Nat} {qs : Nat → qT} {F : Nat → Bool}
noncomputable def unN (Z : gS) (d : Int32) (h : Nat) (qs : Nat → qT) (F : Nat → Bool) (c t : Nat) : Nat := pcN (orN (fun i => wsN Z d h qs (fI F i) t) c)
theorem un_ok {t : Nat} (Zk : tOK Z) : orN (fun i => wsN Z d h qs (fI F i) t) c < 256 ∧ unN Z d h qs F c t ≤ 8 ∧ bcV (nI (orN (fun i => wsN Z d h qs (fI F i) t) c)) = nI (unN Z d h qs F c t) ∧ (0 < c → 1 ≤ unN Z d h qs F c t) := by
  have hl := orN_lt (w := fun i => wsN Z d h qs (fI F i) t) c (fun i _ => wsN_lt Zk)
  refine ⟨hl, (pc_all _ hl).2, (pc_all _ hl).1, fun hc => pc_pos _ hl ?_⟩
  obtain ⟨c', rfl⟩ : ∃ c', c = c' + 1 := ⟨c - 1, by omega⟩
  show 0 < orN _ c' ||| 2 ^ _
  refine Nat.pos_of_ne_zero (fun q => ?_)
  have := (Nat.or_eq_zero_iff.mp q).2
  exact absurd this (Nat.pos_iff_ne_zero.mp (Nat.pow_pos (by decide)))
theorem x_unlike {t : Nat} (Zk : tOK Z) (ht : 1 ≤ t ∧ t ≤ 20) (R : ∀ t, 1 ≤ t → t ≤ 20 → S 71 t = nI (orN (fun i => wsN Z d h qs (fI F i) t) c)) : fX2_unlikeBehind 5000 (nI t) S = some (nI (unN Z d h qs F c t), S) := by
  unfold fX2_unlikeBehind fX2_unlikeBehind_b0
  rw [if_neg (nI_pos (by omega))]
  unfold fX2_unlikeBehind_b4
  rw [if_neg (show ¬ (21 : Int32) ≤ nI t from nI_ge (b := 21) (by omega) (by decide))]
  unfold fX2_unlikeBehind_b13
  rw [chk_t (inb_t (by omega) (by decide)), nI_clamp (n := t) (by omega), R t ht.1 ht.2, bnd_t x_bitCount, (un_ok Zk).2.2.1]
  rfl
theorem x_bestLook (Zk : tOK Z) (hc : c ≤ 60) (h3 : S 62 3 = nI c) (R : ∀ t, 1 ≤ t → t ≤ 20 → S 71 t = nI (orN (fun i => wsN Z d h qs (fI F i) t) c)) : fX2_bestLook 5000 S = some (if c = 0 then -1 else nI (bsN (unN Z d h qs F c) 20), S) := by
  have main : Gv (fX2_bestLook_h4 5000 5000 (-1) 1 S) (fun r => r = ((if c = 0 then -1 else nI (bsN (unN Z d h qs F c) 20)), S)) := by
    refine loopG (A := Int32) (fun f k x => fX2_bestLook_h4 5000 f x (nI (k + 1)) S) (fun k x => x = (if k = 0 then -1 else nI (bsN (unN Z d h qs F c) k)) ∧ (0 < k → 0 < c)) _ 20 ?_ ?_ 20 0 (-1) 5000 (by omega) ⟨rfl, fun q => absurd q (by omega)⟩ (by omega)
    · rintro f x ⟨hx, hc0⟩
      have := hc0 (by omega)
      refine ⟨(x, S), ?_, ?_⟩
      · show fX2_bestLook_b4 5000 _ x (nI 21) S = _
        unfold fX2_bestLook_b4
        rw [if_pos (by decide)]
        rfl
      · rw [hx, if_neg (by omega), if_neg (by omega)]
    · rintro f k x hk ⟨hx, hc0⟩
      have hF0 : fX2_bestLook_h4 5000 (f + 1) x (nI (k + 1)) S = if nI c ≤ 0 then fX2_bestLook_b43 5000 x S else fX2_bestLook_b17 5000 (fX2_bestLook_h4 5000 f) x (nI (k + 1)) S := by
        show fX2_bestLook_b4 5000 (fX2_bestLook_h4 5000 f) x (nI (k + 1)) S = _
        unfold fX2_bestLook_b4
        rw [if_neg (show ¬ (20 : Int32) < nI (k + 1) from nI_nlt (a := 20) (by omega) (by decide))]
        unfold fX2_bestLook_b10
        rw [h3]
      by_cases c0 : c = 0
      · refine Or.inl ⟨(x, S), ?_, ?_⟩
        · show fX2_bestLook_h4 5000 (f + 1) x (nI (k + 1)) S = _
          rw [hF0, c0, if_pos (by decide)]
          rfl
        · have k0 : k = 0 := Nat.eq_zero_of_not_pos (fun q => by have := hc0 q; omega)
          rw [hx, if_pos k0, if_pos c0]
      · have hF1 : fX2_bestLook_h4 5000 (f + 1) x (nI (k + 1)) S = fX2_bestLook_b17 5000 (fX2_bestLook_h4 5000 f) x (nI (k + 1)) S := by
          rw [hF0, if_neg (show ¬ nI c ≤ 0 from nI_ge (a := 0) (by omega) (by omega))]
        have b35 : fX2_bestLook_b35 5000 (fX2_bestLook_h4 5000 f) (nI (k + 1)) S = fX2_bestLook_h4 5000 f (nI (k + 1)) (nI (k + 1 + 1)) S := by
          unfold fX2_bestLook_b35 fX2_bestLook_b37
          rw [nI_1 (k + 1)]
        refine Or.inr ?_
        by_cases k0 : k = 0
        · subst k0
          refine ⟨nI 1, ⟨rfl, fun _ => by omega⟩, ?_⟩
          show fX2_bestLook_h4 5000 (f + 1) x (nI (0 + 1)) S = _
          rw [hF1, hx, if_pos rfl]
          unfold fX2_bestLook_b17
          rw [if_pos rfl, b35]
        · obtain ⟨l1, l2⟩ := bsN_le (u := unN Z d h qs F c) k
          have l2 := l2 (by omega)
          have eB : bsN (unN Z d h qs F c) (k + 1) = if unN Z d h qs F c (k + 1) ≤ unN Z d h qs F c (bsN (unN Z d h qs F c) k) then bsN (unN Z d h qs F c) k else k + 1 := if_neg k0
          rw [if_neg k0] at hx
          have u1 := (un_ok (d := d) (h := h) (qs := qs) (F := F) (c := c) (t := k + 1) Zk).2.1
          have u2 := (un_ok (d := d) (h := h) (qs := qs) (F := F) (c := c) (t := bsN (unN Z d h qs F c) k) Zk).2.1
          have hF2 : fX2_bestLook_h4 5000 (f + 1) x (nI (k + 1)) S = if nI (unN Z d h qs F c (k + 1)) ≤ nI (unN Z d h qs F c (bsN (unN Z d h qs F c) k)) then fX2_bestLook_b37 5000 (fX2_bestLook_h4 5000 f) x (nI (k + 1)) S else fX2_bestLook_b35 5000 (fX2_bestLook_h4 5000 f) (nI (k + 1)) S := by
            rw [hF1]
            unfold fX2_bestLook_b17
            rw [if_neg (by rw [hx]; exact nI_nem (by omega))]
            unfold fX2_bestLook_b22
            rw [bnd_t (x_unlike Zk (by omega) R)]
            dsimp only
            rw [hx, bnd_t (x_unlike Zk (by omega) R)]
          refine ⟨nI (bsN (unN Z d h qs F c) (k + 1)), ⟨(if_neg (Nat.succ_ne_zero k)).symm, fun _ => by omega⟩, ?_⟩
          show fX2_bestLook_h4 5000 (f + 1) x (nI (k + 1)) S = _
          rw [hF2, eB]
          by_cases h1 : unN Z d h qs F c (k + 1) ≤ unN Z d h qs F c (bsN (unN Z d h qs F c) k)
          · rw [if_pos h1, if_pos (nI_le h1 (by omega)), hx]
            unfold fX2_bestLook_b37
            rw [nI_1 (k + 1)]
          · rw [if_neg h1, if_neg (nI_ge (by omega) (by omega)), b35]
  obtain ⟨r, r1, rfl⟩ := main
  exact r1
end
noncomputable def m7 (i j : Nat) : Bool := i == 42 || i == 43 || i == 53 || (i == 99 && (j == 44 || j == 45))
theorem m7_f {i j : Nat} : m7 i j = false ↔ (i ≠ 42 ∧ i ≠ 43 ∧ i ≠ 53 ∧ ¬ (i = 99 ∧ (j = 44 ∨ j = 45))) := by
  unfold m7
  simp only [Bool.or_eq_false_iff, Bool.and_eq_false_iff, beq_eq_false_iff_ne]
  omega
theorem m7.same {S S' : gS} (s : oSame m7 S S') : mSame S S' := by
  intro i j h
  refine s i j ?_
  rw [m7_f]
  refine ⟨?_, ?_, ?_, ?_⟩
  · intro q; rw [q] at h; cases h
  · intro q; rw [q] at h; cases h
  · intro q; rw [q] at h; cases h
  · rintro ⟨q, r | r⟩ <;> rw [q, r] at h <;> cases h
section
variable {Z S S1 S3 : gS} {d : Int32} {h n c : Nat} {qs : Nat → qT} {F : Nat → Bool}
/-- what is written of the WORSTS of the first i that fit -/
def wrM (Z : gS) (d : Int32) (h : Nat) (qs : Nat → qT) (F : Nat → Bool) (i : Nat) (S : gS) : Prop := ∀ i', i' < i → ∀ t, t < 20 → S 53 (20 * i' + t) = nI (wsN Z d h qs (fI F i') (t + 1))
theorem m_look79 {i : Nat} {x1 x4 : Int32} {r35 : Int32 → Int32 → gS → Option (Int32 × gS)} (Zk : tOK Z) (K : qsH Z qs) (h9 : h ≤ 999) (hi : i < 60) (hf : fI F i / 10 < tn1 Z) (M : mSit Z S h d (upE (Z 5) (fI F i / 10) (nI (fI F i % 10))) qs) (w41 : S 99 41 = -1) (W : wrM Z d h qs F i S) : ∃ S', fX12_look_h79 5000 r35 5000 x1 (nI i) (nI (fI F i / 10)) x4 0 S = fX12_look_b116 5000 r35 x1 (nI i) (nI (fI F i / 10)) x4 S' ∧ (∀ a b, mHo a b = false → a ≠ 53 → S' a b = S a b) ∧ wrM Z d h qs F (i + 1) S' := by
  have z6 := Zk.2.1.2
  obtain ⟨e, he⟩ : ∃ z : Nat → Int32, z = upE (Z 5) (fI F i / 10) (nI (fI F i % 10)) := ⟨_, rfl⟩
  rw [← he] at M
  have main : ∀ (m t f : Nat) (S5 : gS), t + m = 20 → m < f → mSit Z S5 (h + t) d e (fun g => trj Z (e g) d (wetZ Z) h (qs g) t) → (∀ a b, mHo a b = false → a ≠ 53 → S5 a b = S a b) → wrM Z d h qs F i S5 → (∀ t', t' < t → S5 53 (20 * i + t') = nI (wsN Z d h qs (fI F i) (t' + 1))) → ∃ S', fX12_look_h79 5000 r35 f x1 (nI i) (nI (fI F i / 10)) x4 (nI t) S5 = fX12_look_b116 5000 r35 x1 (nI i) (nI (fI F i / 10)) x4 S' ∧ (∀ a b, mHo a b = false → a ≠ 53 → S' a b = S a b) ∧ wrM Z d h qs F (i + 1) S' := by
    intro m
    induction m with
    | zero =>
      intro t f S5 ht hf2 M5 s5 W5 W6
      obtain ⟨f, rfl⟩ : ∃ f', f = f' + 1 := ⟨f - 1, by omega⟩
      obtain rfl : t = 20 := by omega
      refine ⟨S5, ?_, s5, fun i' a t b => ?_⟩
      · show fX12_look_b79 5000 r35 _ x1 (nI i) _ x4 (nI 20) S5 = _
        unfold fX12_look_b79
        rw [if_pos (by decide)]
      · by_cases q : i' = i
        · rw [q]; exact W6 t b
        · exact W5 i' (by omega) t b
    | succ m ih =>
      intro t f S5 ht hf2 M5 s5 W5 W6
      obtain ⟨f, rfl⟩ : ∃ f', f = f' + 1 := ⟨f - 1, by omega⟩
      obtain ⟨S6, r1, r2, -, r4⟩ := m_step1 (N := 5000) Zk (K.tr (h := h) (d := d) (wf := wetZ Z) (e := e) t) (by omega) (by decide) M5 ((s5 99 41 rfl (by decide)).trans w41)
      have r2 : mSit Z S6 (h + (t + 1)) d e (fun g => trj Z (e g) d (wetZ Z) h (qs g) (t + 1)) := r2
      have hgr := m_greatest (N := 5000) (k1 := 32) (S := S6) r2.1.2.1 z6 (by decide) (by decide)
      have eg : gtR (S6 32) (tn1 Z) = nI (wsN Z d h qs (fI F i) (t + 1)) := by
        rw [gtR_eq (v' := fun g => sq Z d h qs (e g) g (t + 1)) (fun g hg => (r2.2.2.2.2 g hg).1)]
        unfold gtR wsN
        rw [if_neg (by omega), he]
      rw [eg] at hgr
      have hF : fX12_look_h79 5000 r35 (f + 1) x1 (nI i) (nI (fI F i / 10)) x4 (nI t) S5 = fX12_look_h79 5000 r35 f x1 (nI i) (nI (fI F i / 10)) x4 (nI (t + 1)) (sU S6 53 (20 * i + t) (nI (wsN Z d h qs (fI F i) (t + 1)))) := by
        show fX12_look_b79 5000 r35 (fX12_look_h79 5000 r35 f) x1 (nI i) (nI (fI F i / 10)) x4 (nI t) S5 = _
        unfold fX12_look_b79
        rw [if_neg (show ¬ (20 : Int32) ≤ nI t from nI_ge (b := 20) (by omega) (by decide))]
        unfold fX12_look_b86
        dsimp only [lt]
        rw [bnd_t r1]
        dsimp only
        rw [bnd_t hgr]
        dsimp only
        rw [show (20 : Int32) = nI 20 from rfl, pk_mul, nI_add, chk_t (inb_t (by omega) (by decide)), nI_clamp (n := 20 * i + t) (by omega), nI_1 t]
      rw [hF]
      refine ih (t + 1) f _ (by omega) (by omega) ?_ (fun a b c1 c2 => ?_) (fun i' a t' b => ?_) (fun t' a => ?_)
      · refine r2.on (fun a b hab => ?_)
        refine sU_n (fun q => ?_)
        rw [q.1] at hab
        cases hab
      · rw [sU_ne c2, r4 a b c1]
        exact s5 a b c1 c2
      · rw [sU_ap, if_neg (by omega), r4 53 _ rfl]
        exact W5 i' a t' b
      · rw [sU_ap]
        by_cases q : t' = t
        · rw [if_pos ⟨rfl, by omega⟩, q]
        · rw [if_neg (by omega), r4 53 _ rfl]
          exact W6 t' (by omega)
  exact main 20 0 5000 S (by omega) (by omega) M (fun _ _ _ _ => rfl) W (fun t' a => absurd a (by omega))
theorem m_unlike {t : Nat} (Zk : tOK Z) (ht : t < 20) (hc : c ≤ 60) (h54 : S 99 54 = nI c) (W : wrM Z d h qs F c S) : fX12_unlike 5000 (nI t) S = some (nI (unN Z d h qs F c (t + 1)), S) := by
  have main : Gv (fX12_unlike_h4 5000 5000 (nI t) 0 0 S) (fun r => r = (nI (unN Z d h qs F c (t + 1)), S)) := by
    refine loopG (A := Unit) (fun f i _ => fX12_unlike_h4 5000 f (nI t) (nI (orN (fun i => wsN Z d h qs (fI F i) (t + 1)) i)) (nI i) S) (fun _ _ => True) _ c ?_ ?_ c 0 () 5000 (by omega) trivial (by omega)
    · rintro f a -
      refine ⟨(nI (unN Z d h qs F c (t + 1)), S), ?_, rfl⟩
      obtain ⟨u1, u2, u3, u4⟩ := un_ok (Z := Z) (d := d) (h := h) (qs := qs) (F := F) (c := c) (t := t + 1) Zk
      show fX12_unlike_b4 5000 _ (nI t) _ (nI c) S = _
      unfold fX12_unlike_b4
      rw [h54, if_pos (nI_le (Nat.le_refl _) (by omega))]
      unfold fX12_unlike_b34
      rw [bnd_t (m_bitsOf u1 (by decide)), u3]
    · rintro f i a hi -
      refine Or.inr ⟨(), trivial, ?_⟩
      have u1 := orN_lt (w := fun i => wsN Z d h qs (fI F i) (t + 1)) i (fun i _ => wsN_lt Zk)
      show fX12_unlike_b4 5000 (fX12_unlike_h4 5000 f) (nI t) _ (nI i) S = fX12_unlike_h4 5000 f (nI t) (nI (orN (fun i => wsN Z d h qs (fI F i) (t + 1)) i ||| 2 ^ wsN Z d h qs (fI F i) (t + 1))) (nI (i + 1)) S
      unfold fX12_unlike_b4
      rw [h54, if_neg (nI_ge hi (by omega))]
      unfold fX12_unlike_b12
      rw [show (20 : Int32) = nI 20 from rfl, pk_mul, nI_add, chk_t (inb_t (by omega) (by decide)), nI_clamp (n := 20 * i + t) (by omega), W i hi t ht, (or_all _ u1 _ (wsN_lt Zk)).1, nI_1 i]
  obtain ⟨r, r1, rfl⟩ := main
  exact r1
theorem m_look146 {x1 : Int32} (Zk : tOK Z) (hc : c ≤ 60) (h54 : S 99 54 = nI c) (W : wrM Z d h qs F c S) : fX12_look_b139 5000 x1 S = fX12_look_b184 5000 x1 (if c = 0 then -1 else nI (bsN (unN Z d h qs F c) 20)) (if c = 0 then 0 else nI (unN Z d h qs F c (bsN (unN Z d h qs F c) 20))) S := by
  have main : ∀ (m t f : Nat) (x y : Int32), t + m = 20 → m < f → x = (if c = 0 then -1 else if t = 0 then -1 else nI (bsN (unN Z d h qs F c) t)) → y = (if c = 0 then 0 else if t = 0 then 0 else nI (unN Z d h qs F c (bsN (unN Z d h qs F c) t))) → fX12_look_h146 5000 f x1 x y (nI t) S = fX12_look_b184 5000 x1 (if c = 0 then -1 else nI (bsN (unN Z d h qs F c) 20)) (if c = 0 then 0 else nI (unN Z d h qs F c (bsN (unN Z d h qs F c) 20))) S := by
    intro m
    induction m with
    | zero =>
      intro t f x y ht hf hx hy
      obtain ⟨f, rfl⟩ : ∃ f', f = f' + 1 := ⟨f - 1, by omega⟩
      obtain rfl : t = 20 := by omega
      show fX12_look_b146 5000 _ x1 x y (nI 20) S = _
      unfold fX12_look_b146
      rw [if_pos (by decide), hx, hy, if_neg (show ¬ 20 = 0 by decide), if_neg (show ¬ 20 = 0 by decide)]
    | succ m ih =>
      intro t f x y ht hf hx hy
      obtain ⟨f, rfl⟩ : ∃ f', f = f' + 1 := ⟨f - 1, by omega⟩
      obtain ⟨u1, u2, u3, u4⟩ := un_ok (Z := Z) (d := d) (h := h) (qs := qs) (F := F) (c := c) (t := t + 1) Zk
      have hF : fX12_look_h146 5000 (f + 1) x1 x y (nI t) S = if y < nI (unN Z d h qs F c (t + 1)) then fX12_look_h146 5000 f x1 (nI (t + 1)) (nI (unN Z d h qs F c (t + 1))) (nI (t + 1)) S else fX12_look_h146 5000 f x1 x y (nI (t + 1)) S := by
        show fX12_look_b146 5000 (fX12_look_h146 5000 f) x1 x y (nI t) S = _
        unfold fX12_look_b146
        rw [if_neg (show ¬ (20 : Int32) ≤ nI t from nI_ge (b := 20) (by omega) (by decide))]
        unfold fX12_look_b153
        rw [bnd_t (m_unlike Zk (by omega) hc h54 W)]
        unfold fX12_look_b170 fX12_look_b167 fX12_look_b178
        rw [nI_1 t]
      rw [hF]
      by_cases c0 : c = 0
      · have e0 : unN Z d h qs F c (t + 1) = 0 := by
          rw [c0]
          show pcN 0 = 0
          decide
        rw [if_pos c0] at hx hy
        rw [hy, e0, if_neg (by decide)]
        exact ih (t + 1) f x 0 (by omega) (by omega) (by rw [if_pos c0]; exact hx) (by rw [if_pos c0])
      · rw [if_neg c0] at hx hy
        have n1 : ¬ t + 1 = 0 := Nat.succ_ne_zero t
        by_cases t0 : t = 0
        · subst t0
          have u4 := u4 (by omega)
          rw [if_pos rfl] at hy
          rw [hy, if_pos (show (0 : Int32) < nI (unN Z d h qs F c (0 + 1)) from nI_lt (a := 0) (by omega) (by omega))]
          exact ih 1 f _ _ (by omega) (by omega) (by rw [if_neg c0, if_neg n1]; rfl) (by rw [if_neg c0, if_neg n1]; rfl)
        · have eB : bsN (unN Z d h qs F c) (t + 1) = if unN Z d h qs F c (t + 1) ≤ unN Z d h qs F c (bsN (unN Z d h qs F c) t) then bsN (unN Z d h qs F c) t else t + 1 := if_neg t0
          rw [if_neg t0] at hx hy
          have u5 := (un_ok (d := d) (h := h) (qs := qs) (F := F) (c := c) (t := bsN (unN Z d h qs F c) t) Zk).2.1
          by_cases h1 : unN Z d h qs F c (t + 1) ≤ unN Z d h qs F c (bsN (unN Z d h qs F c) t)
          · rw [if_pos h1] at eB
            rw [hy, if_neg (nI_nlt h1 (by omega))]
            exact ih (t + 1) f _ _ (by omega) (by omega) (by rw [if_neg c0, if_neg n1, eB]; exact hx) (by rw [if_neg c0, if_neg n1, eB])
          · rw [if_neg h1] at eB
            rw [hy, if_pos (nI_lt (by omega) (by omega))]
            exact ih (t + 1) f _ _ (by omega) (by omega) (by rw [if_neg c0, if_neg n1, eB]) (by rw [if_neg c0, if_neg n1, eB])
  unfold fX12_look_b139
  refine main 20 0 5000 (-1) 0 (by omega) (by omega) ?_ ?_
  · by_cases c0 : c = 0
    · rw [if_pos c0]
    · rw [if_neg c0, if_pos rfl]
  · by_cases c0 : c = 0
    · rw [if_pos c0]
    · rw [if_neg c0, if_pos rfl]
end
