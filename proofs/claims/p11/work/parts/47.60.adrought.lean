/-! loops of both sides at once; drought -/
theorem loop2 {A B R R' : Type} (H : Nat → Nat → A → Option R) (H' : Nat → Nat → B → Option R') (I : Nat → A → B → Prop) (Q : R → R' → Prop) (n : Nat) (he : ∀ f f' a b, I n a b → ∃ r r', H (f + 1) n a = some r ∧ H' (f' + 1) n b = some r' ∧ Q r r') (hs : ∀ f f' k a b, k < n → I k a b → ∃ a' b', I (k + 1) a' b' ∧ H (f + 1) k a = H f (k + 1) a' ∧ H' (f' + 1) k b = H' f' (k + 1) b') : ∀ (m k : Nat) (a : A) (b : B) (fuel fuel' : Nat), k + m = n → I k a b → m < fuel → m < fuel' → ∃ r r', H fuel k a = some r ∧ H' fuel' k b = some r' ∧ Q r r' := by
  intro m
  induction m with
  | zero =>
    intro k a b fuel fuel' h1 h2 h3 h4
    obtain ⟨f, rfl⟩ : ∃ f, fuel = f + 1 := ⟨fuel - 1, by omega⟩
    obtain ⟨f', rfl⟩ : ∃ f, fuel' = f + 1 := ⟨fuel' - 1, by omega⟩
    have : k = n := by omega
    subst this
    exact he f f' a b h2
  | succ m ih =>
    intro k a b fuel fuel' h1 h2 h3 h4
    obtain ⟨f, rfl⟩ : ∃ f, fuel = f + 1 := ⟨fuel - 1, by omega⟩
    obtain ⟨f', rfl⟩ : ∃ f, fuel' = f + 1 := ⟨fuel' - 1, by omega⟩
    obtain ⟨a', b', h5, h6, h7⟩ := hs f f' k a b (by omega) h2
    rw [h6, h7]
    exact ih (k + 1) a' b' f f' (by omega) h5 (by omega) (by omega)
noncomputable def dwf (st : Int32) (h : Nat) : Nat → Int32 := fun j => if bt st (nI (j - h)) = true then 0 else 9
noncomputable def wtR (st tn : Int32) : Nat → Int32
  | 0 => 1
  | k + 1 => wtR st tn k * (if bt st (nI k) = true then tn else 10 - tn)
def mSam1 (S S' : gS) : Prop := ∀ i j, mScr i j = false → ¬ (i = 99 ∧ j = 41) → S' i j = S i j
theorem mSit.on1 {Z S S' : gS} {h : Nat} {d : Int32} {e : Nat → Int32} {qs : Nat → qT} (M : mSit Z S h d e qs) (s : mSam1 S S') : mSit Z S' h d e qs := by
  obtain ⟨m1, m2, m3, m4, m5⟩ := M
  refine ⟨m1.on (fun i j h1 h2 => s i j ?_ (by omega)), fun g hg => by rw [s 18 g rfl (by omega)]; exact m2 g hg, by rw [s 99 37 rfl (by omega)]; exact m3, by rw [s 99 38 rfl (by omega)]; exact m4, fun g hg => ?_⟩
  · rcases (show i = 5 ∨ i = 6 ∨ i = 7 ∨ i = 8 ∨ i = 9 ∨ i = 10 ∨ i = 11 ∨ i = 12 ∨ i = 13 ∨ i = 14 ∨ i = 15 ∨ i = 16 by omega) with rfl | rfl | rfl | rfl | rfl | rfl | rfl | rfl | rfl | rfl | rfl | rfl <;> rfl
  · rw [s 32 g rfl (by omega), s 33 g rfl (by omega), s 34 g rfl (by omega), s 35 g rfl (by omega)]
    exact m5 g hg
theorem mSit.up41 {Z S : gS} {h : Nat} {d x : Int32} {e : Nat → Int32} {qs : Nat → qT} (M : mSit Z S h d e qs) : mSit Z (sU S 99 41 x) h d e qs := M.on1 (fun i j _ h => sU_n h)
/-- what the HOURS under a told WET change -/
noncomputable def mD (i j : Nat) : Bool := mHo i j || (i == 99 && j == 41)
theorem mD_ho {S S' : gS} (s : oSame mHo S S') : oSame mD S S' := fun i j h => s i j (by
  unfold mD at h
  rw [Bool.or_eq_false_iff] at h
  exact h.1)
theorem mD_back {S1 S S4 : gS} (s : mSam1 S1 S) {S' : gS} (sd : oSame mD S S') (u : ∀ i j, S4 i j = if mPk i j = true then S1 i j else S' i j) : mSam1 S1 S4 := by
  intro i j h1 h2
  rw [u i j]
  by_cases hp : mPk i j = true
  · rw [if_pos hp]
  · rw [if_neg hp]
    have hd : mD i j = false := by
      cases hh : mD i j with
      | false => rfl
      | true =>
        exfalso
        unfold mD at hh
        rw [Bool.or_eq_true] at hh
        rcases hh with hh | hh
        · have h3 := fun q => hp (mPk_t.mpr q)
          unfold mHo at hh
          simp only [Bool.or_eq_true, Bool.and_eq_true, beq_iff_eq, decide_eq_true_iff] at hh
          rcases hh with ((rfl | rfl) | h4) | ⟨rfl, (rfl | rfl) | rfl⟩
          · cases h1
          · cases h1
          · exact h3 (Or.inl ⟨h4.1.1, h4.1.2, h4.2⟩)
          · exact h3 (Or.inr ⟨rfl, Or.inl rfl⟩)
          · cases h1
          · cases h1
        · rw [Bool.and_eq_true, beq_iff_eq, beq_iff_eq] at hh
          exact h2 hh
    rw [sd i j hd, s i j h1 h2]
theorem m_drought_h {Z S : gS} {h n g : Nat} {d st tn lk x5 : Int32} {e : Nat → Int32} {qs : Nat → qT} {r : Int32 → Int32 → Int32 → Int32 → Int32 → Int32 → gS → Option (Int32 × gS)} (Zk : tOK Z) (K : qsH Z qs) (h9 : h ≤ 999) (hn : n ≤ 5) (hg : g < tn1 Z) (M : mSit Z S h d e qs) : ∃ S', fX12_drought_h86 5000 r 5000 (nI g) (nI n) tn lk x5 st 1 0 S = bnd (fX12_unpack 5000 46 0 S') (fun q1 => r (nI g) (nI n) tn (if (trj Z (e g) d (dwf st h) h (qs g) n).2.2.1 ≤ x5 then lk else lk + wtR st tn n) x5 (st + 1) q1.2) ∧ oSame mD S S' := by
  have z6 := Zk.2.1.2
  suffices L : ∀ (m k fuel : Nat) (S1 : gS), k + m = n → m < fuel → mSit Z S1 (h + k) d e (fun g => trj Z (e g) d (dwf st h) h (qs g) k) → oSame mD S S1 → ∃ S', fX12_drought_h86 5000 r fuel (nI g) (nI n) tn lk x5 st (wtR st tn k) (nI k) S1 = bnd (fX12_unpack 5000 46 0 S') (fun q1 => r (nI g) (nI n) tn (if (trj Z (e g) d (dwf st h) h (qs g) n).2.2.1 ≤ x5 then lk else lk + wtR st tn n) x5 (st + 1) q1.2) ∧ oSame mD S S' from L n 0 5000 S (by omega) (by omega) M oSame.rf
  intro m
  induction m with
  | zero =>
    intro k fuel S1 h1 h2 M1 s
    obtain ⟨f, rfl⟩ : ∃ f, fuel = f + 1 := ⟨fuel - 1, by omega⟩
    have : k = n := by omega
    subst this
    refine ⟨S1, ?_, s⟩
    show fX12_drought_b86 5000 r _ (nI g) (nI k) tn lk x5 st _ (nI k) S1 = _
    unfold fX12_drought_b86
    rw [if_pos (nI_le (Nat.le_refl _) (by omega))]
    unfold fX12_drought_b145
    rw [chk_t (inb_t (by omega) (by decide)), nI_clamp (by omega), (M1.2.2.2.2 g hg).2.2.1]
    by_cases hl : (trj Z (e g) d (dwf st h) h (qs g) k).2.2.1 ≤ x5
    · rw [if_pos hl, if_pos hl]
      unfold fX12_drought_b163 fX12_drought_b164
      rw [Int32.add_zero]
    · rw [if_neg hl, if_neg hl]
      rfl
  | succ m ih =>
    intro k fuel S1 h1 h2 M1 s
    obtain ⟨f, rfl⟩ : ∃ f, fuel = f + 1 := ⟨fuel - 1, by omega⟩
    have ed : dwf st h (h + k) = if bt st (nI k) = true then 0 else 9 := by
      unfold dwf
      rw [show h + k - h = k by omega]
    have hw : ¬ dwf st h (h + k) = -1 ∧ 0 ≤ dwf st h (h + k) := by
      rw [ed]
      cases bt st (nI k) <;> decide
    obtain ⟨S2, r1, r2, -, r4⟩ := m_step (N := 5000) (we := dwf st h (h + k)) Zk (K.tr (wf := dwf st h) (h := h) (d := d) (e := e) k) (by omega) (by decide) (M1.up41 (x := dwf st h (h + k))) (Or.inl ⟨sU_s, hw.1⟩) hw.2
    have s2 : oSame mD S S2 := (s.up rfl).tr (mD_ho r4)
    obtain ⟨S', e1, e2⟩ := ih (k + 1) f S2 (by omega) (by omega) r2 s2
    refine ⟨S', ?_, e2⟩
    rw [← e1]
    show fX12_drought_b86 5000 r (fX12_drought_h86 5000 r f) (nI g) (nI n) tn lk x5 st _ (nI k) S1 = fX12_drought_h86 5000 r f (nI g) (nI n) tn lk x5 st (wtR st tn k * (if bt st (nI k) = true then tn else 10 - tn)) (nI (k + 1)) S2
    rw [ed] at r1
    unfold fX12_drought_b86
    rw [if_neg (nI_ge (by omega) (by omega))]
    unfold fX12_drought_b92
    rw [bnd_t m_isOf]
    cases hb : bt st (nI k) with
    | false =>
      rw [hb, if_neg (by decide)] at r1
      show fX12_drought_b109 5000 r (fX12_drought_h86 5000 r f) (nI g) (nI n) tn lk x5 st (wtR st tn k) (nI k) 9 S1 = _
      unfold fX12_drought_b109
      dsimp only [lt]
      rw [bnd_t m_isOf, hb]
      show fX12_drought_b132 5000 r (fX12_drought_h86 5000 r f) (nI g) (nI n) tn lk x5 st (nI k) (wtR st tn k) (10 - tn) (sU S1 99 41 9) = _
      unfold fX12_drought_b132
      rw [bnd_t r1, nI_1]
      rfl
    | true =>
      rw [hb, if_pos rfl] at r1
      show fX12_drought_b109 5000 r (fX12_drought_h86 5000 r f) (nI g) (nI n) tn lk x5 st (wtR st tn k) (nI k) 0 S1 = _
      unfold fX12_drought_b109
      dsimp only [lt]
      rw [bnd_t m_isOf, hb]
      show fX12_drought_b132 5000 r (fX12_drought_h86 5000 r f) (nI g) (nI n) tn lk x5 st (nI k) (wtR st tn k) tn (sU S1 99 41 0) = _
      unfold fX12_drought_b132
      rw [bnd_t r1, nI_1]
      rfl
theorem shl_pow : ∀ n, n < 31 → (1 : Int32) <<< (nI n &&& 31) = nI (2 ^ n) := by decide +kernel
