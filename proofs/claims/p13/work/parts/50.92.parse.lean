noncomputable def xNu (i j : Nat) : Bool := xTk i j || (i == 1 && (j == 2 || j == 3))
noncomputable def mNu (i j : Nat) : Bool := mTk i j || (i == 99 && (j == 27 || j == 28))
theorem xNu_f {i j : Nat} (h : xNu i j = false) : xTk i j = false ∧ ¬ (i = 1 ∧ (j = 2 ∨ j = 3)) := by
  unfold xNu at h
  simp only [Bool.or_eq_false_iff, Bool.and_eq_false_iff, beq_eq_false_iff_ne] at h
  exact ⟨h.1, by omega⟩
theorem mNu_f {i j : Nat} (h : mNu i j = false) : mTk i j = false ∧ ¬ (i = 99 ∧ (j = 27 ∨ j = 28)) := by
  unfold mNu at h
  simp only [Bool.or_eq_false_iff, Bool.and_eq_false_iff, beq_eq_false_iff_ne] at h
  exact ⟨h.1, by omega⟩
section
variable {B : Nat → Nat} {n s p k r w sg c D N : Nat} {S SM : gS}
theorem xNu.ex {S S' : gS} (h : oSame xNu S S') : oSame (xEx r) S S' := fun i j z => h i j (by
  obtain ⟨a, b, -⟩ := xEx_f z
  unfold xNu
  rw [a, Bool.false_or]
  cases q : (i == 1 && (j == 2 || j == 3)) with
  | false => rfl
  | true =>
    exfalso
    simp only [Bool.and_eq_true, Bool.or_eq_true, beq_iff_eq] at q
    exact b q)
theorem mNu.ex {S S' : gS} (h : oSame mNu S S') : oSame (mEx w sg) S S' := fun i j z => h i j (by
  obtain ⟨a, b, -⟩ := mEx_f z
  unfold mNu
  rw [a, Bool.false_or]
  cases q : (i == 99 && (j == 27 || j == 28)) with
  | false => rfl
  | true =>
    exfalso
    simp only [Bool.and_eq_true, Bool.or_eq_true, beq_iff_eq] at q
    exact b q)
/-- the next token, nothing else -/
theorem j_tok (T : tkJ B n s p k S SM) (F : fine S SM) (k0 : k ≠ 0) : ∃ S' SM' s' p' k', fX8_advance 5000 S = some (0, S') ∧ fX12_stepOn 5000 SM = some (0, SM') ∧ tkJ B n s' p' k' S' SM' ∧ fine S' SM' ∧ s + 1 ≤ s' ∧ oSame xTk S S' ∧ oSame mTk SM SM' := by
  have hk := T.2.2.2.1
  unfold tkK at hk
  have := hk.2.2.2.2 k0
  obtain ⟨S1, SM1, s1, p1, k1, a1, a2, T1, a3, a4, a5⟩ := j_step T.1 hk.2.1 T.2.1.1 T.2.1.2.1 T.2.2.1.1 T.2.2.1.2.1
  exact ⟨S1, SM1, s1, p1, k1, a1, a2, T1, ⟨⟨(a4 1 2 rfl).trans F.1.1, (a4 1 3 rfl).trans F.1.2⟩, (a5 99 27 rfl).trans F.2⟩, by omega, a4, a5⟩
/-- behind a small piece that lays nothing -/
def NUM (B : Nat → Nat) (n s : Nat) (S SM S' SM' : gS) (G : Prop) : Prop := oSame xNu S S' ∧ oSame mNu SM SM' ∧ ∃ s' p' k', tkJ B n s' p' k' S' SM' ∧ ((fine S' SM' ∧ s + 1 ≤ s' ∧ G) ∨ flt S' SM')
theorem j_refuse {q : Nat} {G : Prop} (hq : 1 ≤ q ∧ q ≤ 5) (T : tkJ B n s p k S SM) (F : fine S SM) : ∃ S' SM', fX3_refuse 5000 (nI q) S = some (0, S') ∧ fX12_wrong 5000 (nI q) SM = some (0, SM') ∧ flt S' SM' ∧ NUM B n s S SM S' SM' G := by
  obtain ⟨S', SM', a1, a2, a3, a4, a5, a6⟩ := j_wrong hq T F
  exact ⟨S', SM', a1, a2, a3, fun i j z => a5 i j (xNu_f z).2, fun i j z => a6 i j (mNu_f z).2, s, p, k, a4, Or.inr a3⟩
theorem j_skip {x : Int32} (T : tkJ B n s p k S SM) (F : fine S SM) : ∃ S' SM', fX3_skipSign 5000 x S = some (0, S') ∧ fX12_mark 5000 x SM = some (0, SM') ∧ NUM B n s S SM S' SM' (isS B k s x = true) ∧ (isS B k s x = false → flt S' SM') := by
  have hX : fX3_skipSign 5000 x S = if iv (isS B k s x) = 0 then fX3_skipSign_b11 5000 S else fX3_skipSign_b19 5000 S := by
    unfold fX3_skipSign fX3_skipSign_b0
    rw [bnd_t (x_isAtSign T)]
  have hM : fX12_mark 5000 x SM = if iv (isS B k s x) = 0 then fX12_mark_b15 5000 SM else fX12_mark_b20 5000 SM := by
    unfold fX12_mark fX12_mark_b0
    rw [if_pos F.2]
    unfold fX12_mark_b7
    rw [bnd_t (m_isMarked T F.2)]
  cases hb : isS B k s x with
  | false =>
    obtain ⟨S', SM', a1, a2, a3, a4⟩ := j_refuse (q := 1) (G := false = true) (by decide) T F
    refine ⟨S', SM', ?_, ?_, a4, fun _ => a3⟩
    · rw [hX, hb]
      show fX3_skipSign_b11 5000 S = _
      unfold fX3_skipSign_b11
      rw [bnd_t (show fX3_refuse 5000 1 S = _ from a1)]
      rfl
    · rw [hM, hb]
      show fX12_mark_b15 5000 SM = _
      unfold fX12_mark_b15
      rw [bnd_t (show fX12_wrong 5000 1 SM = _ from a2)]
      unfold fX12_mark_b20
      rw [if_neg (flt_x (N := 5000) a3).2.1]
      rfl
  | true =>
    have k0 : k ≠ 0 := by
      intro z
      unfold isS at hb
      rw [z] at hb
      cases hb
    obtain ⟨S', SM', s', p', k', a1, a2, a3, a4, a5, a6, a7⟩ := j_tok T F k0
    refine ⟨S', SM', ?_, ?_, ⟨fun i j z => a6 i j (xNu_f z).1, fun i j z => a7 i j (mNu_f z).1, s', p', k', a3, Or.inl ⟨a4, a5, rfl⟩⟩, fun z => by cases z⟩
    · rw [hX, hb]
      show fX3_skipSign_b19 5000 S = _
      unfold fX3_skipSign_b19
      rw [bnd_t (fine_x F)]
      show fX3_skipSign_b26 5000 S = _
      unfold fX3_skipSign_b26
      rw [bnd_t a1]
      rfl
    · rw [hM, hb]
      show fX12_mark_b20 5000 SM = _
      unfold fX12_mark_b20
      rw [if_pos F.2]
      unfold fX12_mark_b27
      rw [bnd_t a2]
      rfl
theorem j_skip0 {x : Int32} (T : tkJ B n s p k S SM) (h : flt S SM) : fX3_skipSign 5000 x S = some (0, S) ∧ fX12_mark 5000 x SM = some (0, SM) := by
  obtain ⟨f1, f2, f3⟩ := flt_x (N := 5000) h
  refine ⟨?_, ?_⟩
  · unfold fX3_skipSign fX3_skipSign_b0
    rw [bnd_t (x_isAtSign T)]
    cases isS B k s x with
    | false =>
      show fX3_skipSign_b11 5000 S = _
      unfold fX3_skipSign_b11
      rw [bnd_t (f3 1)]
      rfl
    | true =>
      show fX3_skipSign_b19 5000 S = _
      unfold fX3_skipSign_b19
      rw [bnd_t f1]
      rfl
  · unfold fX12_mark fX12_mark_b0
    rw [if_neg f2]
    unfold fX12_mark_b20
    rw [if_neg f2]
    rfl
/-- a number between bounds -/
theorem j_num {lo hi : Nat} (hl : lo ≤ 9999) (hh : hi ≤ 9999) (T : tkJ B n s p k S SM) (F : fine S SM) : ∃ v S' v' SM', fX3_readNumber 5000 (nI lo) (nI hi) S = some (v, S') ∧ fX12_readNumber 5000 (nI lo) (nI hi) SM = some (v', SM') ∧ NUM B n s S SM S' SM' (k = 2 ∧ ∃ y, lo ≤ y ∧ y ≤ hi ∧ v = nI y ∧ v' = nI y) ∧ (k ≠ 2 → flt S' SM') := by
  have n7 := T.1.1
  have hk := T.2.2.2.1
  unfold tkK at hk
  have b39 : ∀ S1 : gS, fX3_isFine 5000 S1 = some (0, S1) → fX3_readNumber_b39 5000 S1 = some (S1 2 6, S1) := by
    intro S1 h
    unfold fX3_readNumber_b39
    rw [bnd_t h]
    rfl
  have bad : ∀ q : Nat, 1 ≤ q ∧ q ≤ 5 → (fX3_readNumber 5000 (nI lo) (nI hi) S = bnd (fX3_refuse 5000 (nI q) S) (fun q1 => fX3_readNumber_b39 5000 q1.2)) → (fX12_numberNow 5000 (nI lo) (nI hi) SM = bnd (fX12_wrong 5000 (nI q) SM) (fun q1 => fX12_numberNow_b59 5000 q1.2)) → ∃ v S' v' SM', fX3_readNumber 5000 (nI lo) (nI hi) S = some (v, S') ∧ fX12_readNumber 5000 (nI lo) (nI hi) SM = some (v', SM') ∧ NUM B n s S SM S' SM' (k = 2 ∧ ∃ y, lo ≤ y ∧ y ≤ hi ∧ v = nI y ∧ v' = nI y) ∧ flt S' SM' := by
    intro q hq e1 e2
    obtain ⟨S', SM', a1, a2, a3, a4⟩ := j_refuse (q := q) (G := k = 2 ∧ ∃ y, lo ≤ y ∧ y ≤ hi ∧ (S 2 6 : Int32) = nI y ∧ (0 : Int32) = nI y) hq T F
    obtain ⟨f1, f2, f3⟩ := flt_x (N := 5000) a3
    refine ⟨S' 2 6, S', 0, SM', ?_, ?_, ⟨a4.1, a4.2.1, ?_⟩, a3⟩
    · rw [e1, bnd_t a1]
      exact b39 S' f1
    · unfold fX12_readNumber fX12_readNumber_b0
      have : fX12_numberNow 5000 (nI lo) (nI hi) SM = some (0, SM') := by
        rw [e2, bnd_t a2]
        show fX12_numberNow_b59 5000 SM' = _
        unfold fX12_numberNow_b59
        rw [if_neg f2]
        rfl
      rw [bnd_t this]
      show (if SM' 99 27 = 0 then _ else _) = _
      rw [if_neg f2]
      rfl
    · obtain ⟨-, -, s', p', k', t1, -⟩ := a4
      exact ⟨s', p', k', t1, Or.inr a3⟩
  by_cases k2 : k = 2
  · subst k2
    obtain ⟨v1, v2⟩ := T.2.2.2.2 rfl
    have e4 : S 2 4 = 2 := T.2.1.2.2.2
    have m4 : SM 99 23 = 2 := T.2.2.1.2.2.2.2
    have hX : fX3_readNumber 5000 (nI lo) (nI hi) S = fX3_readNumber_b19 5000 (nI lo) (nI hi) S := by
      unfold fX3_readNumber fX3_readNumber_b0
      rw [if_pos e4]
    have hM : fX12_numberNow 5000 (nI lo) (nI hi) SM = fX12_numberNow_b25 5000 (nI lo) (nI hi) SM := by
      unfold fX12_numberNow fX12_numberNow_b0
      rw [if_pos F.2]
      unfold fX12_numberNow_b9
      rw [if_pos m4]
    have eps : SM 99 26 - SM 99 25 = nI (p - s) := by rw [T.2.2.1.2.2.1, T.2.2.1.2.2.2.1, pk_sub hk.1]
    by_cases q : p - s ≤ 4
    · obtain ⟨y, y1, y2, y3⟩ := v1 q
      have hX2 : fX3_readNumber_b19 5000 (nI lo) (nI hi) S = if iv (wth (nI y) (nI lo) (nI hi)) = 0 then fX3_readNumber_b34 5000 S else fX3_readNumber_b39 5000 S := by
        unfold fX3_readNumber_b19
        rw [y2, bnd_t x_isWithin]
      have hM2 : fX12_numberNow_b25 5000 (nI lo) (nI hi) SM = fX12_numberNow_b38 5000 (nI lo) (nI hi) SM := by
        unfold fX12_numberNow_b25
        rw [eps, if_neg (show ¬ (4 : Int32) < nI (p - s) from nI_nlt (a := 4) (by omega) (by decide))]
      have b34 : fX3_readNumber_b34 5000 S = bnd (fX3_refuse 5000 (nI 2) S) (fun q1 => fX3_readNumber_b39 5000 q1.2) := rfl
      have b54 : fX12_numberNow_b54 5000 SM = bnd (fX12_wrong 5000 (nI 2) SM) (fun q1 => fX12_numberNow_b59 5000 q1.2) := rfl
      by_cases w1 : y < lo
      · have ew : wth (nI y) (nI lo) (nI hi) = false := by
          unfold wth
          rw [decide_eq_false (nI_ge w1 (by omega)), Bool.false_and]
        obtain ⟨v, S', v', SM', a1, a2, a3, a4⟩ := bad 2 (by decide) (by rw [hX, hX2, ew]; exact b34) (by
          rw [hM, hM2]
          unfold fX12_numberNow_b38
          rw [y3, if_pos (nI_lt w1 (by omega))]
          exact b54)
        exact ⟨v, S', v', SM', a1, a2, a3, fun z => absurd rfl z⟩
      · by_cases w2 : y ≤ hi
        · have ew : wth (nI y) (nI lo) (nI hi) = true := by
            unfold wth
            rw [decide_eq_true (nI_le (by omega) (by omega)), decide_eq_true (nI_le w2 (by omega))]
            rfl
          obtain ⟨S', SM', s', p', k', a1, a2, a3, a4, a5, a6, a7⟩ := j_tok T F (by decide)
          refine ⟨nI y, S', nI y, SM', ?_, ?_, ⟨fun i j z => a6 i j (xNu_f z).1, fun i j z => a7 i j (mNu_f z).1, s', p', k', a3, Or.inl ⟨a4, a5, rfl, y, by omega, w2, rfl, rfl⟩⟩, fun z => absurd rfl z⟩
          · rw [hX, hX2, ew]
            show fX3_readNumber_b39 5000 S = _
            unfold fX3_readNumber_b39
            rw [bnd_t (fine_x F), y2]
            show fX3_readNumber_b54 5000 (nI y) S = _
            unfold fX3_readNumber_b54
            rw [bnd_t a1]
            rfl
          · have e1 : fX12_numberNow 5000 (nI lo) (nI hi) SM = some (nI y, SM) := by
              rw [hM, hM2]
              unfold fX12_numberNow_b38
              rw [y3, if_neg (nI_nlt (by omega) (by omega))]
              unfold fX12_numberNow_b46
              rw [y3, if_pos (nI_le w2 (by omega))]
              unfold fX12_numberNow_b59
              rw [if_pos F.2]
              unfold fX12_numberNow_b66
              rw [y3]
              rfl
            unfold fX12_readNumber fX12_readNumber_b0
            rw [bnd_t e1]
            show (if SM 99 27 = 0 then _ else _) = _
            rw [if_pos F.2]
            unfold fX12_readNumber_b14
            rw [bnd_t a2]
            rfl
        · have ew : wth (nI y) (nI lo) (nI hi) = false := by
            unfold wth
            rw [decide_eq_false (nI_ge (a := hi) (b := y) (by omega) (by omega)), Bool.and_false]
          obtain ⟨v, S', v', SM', a1, a2, a3, a4⟩ := bad 2 (by decide) (by rw [hX, hX2, ew]; exact b34) (by
            rw [hM, hM2]
            unfold fX12_numberNow_b38
            rw [y3, if_neg (nI_nlt (by omega) (by omega))]
            unfold fX12_numberNow_b46
            rw [y3, if_neg (nI_ge (by omega) (by omega))]
            exact b54)
          exact ⟨v, S', v', SM', a1, a2, a3, fun z => absurd rfl z⟩
    · have h6 := v2 (by omega)
      have b34 : fX3_readNumber_b34 5000 S = bnd (fX3_refuse 5000 (nI 2) S) (fun q1 => fX3_readNumber_b39 5000 q1.2) := rfl
      have b54 : fX12_numberNow_b54 5000 SM = bnd (fX12_wrong 5000 (nI 2) SM) (fun q1 => fX12_numberNow_b59 5000 q1.2) := rfl
      have ew : wth (nI 10000) (nI lo) (nI hi) = false := by
        unfold wth
        rw [decide_eq_false (nI_ge (a := hi) (b := 10000) (by omega) (by omega)), Bool.and_false]
      obtain ⟨v, S', v', SM', a1, a2, a3, a4⟩ := bad 2 (by decide) (by
        rw [hX]
        unfold fX3_readNumber_b19
        rw [h6, bnd_t x_isWithin, ew]
        exact b34) (by
        rw [hM]
        unfold fX12_numberNow_b25
        rw [eps, if_pos (show (4 : Int32) < nI (p - s) from nI_lt (a := 4) (by omega) (by omega))]
        exact b54)
      exact ⟨v, S', v', SM', a1, a2, a3, fun z => absurd rfl z⟩
  · have e4 : ¬ S 2 4 = 2 := by
      rw [T.2.1.2.2.2]
      exact fun z => k2 ((nI_eq (b := 2) (by omega) (by omega)).mp z)
    have m4 : ¬ SM 99 23 = 2 := by
      rw [T.2.2.1.2.2.2.2]
      exact fun z => k2 ((nI_eq (b := 2) (by omega) (by omega)).mp z)
    obtain ⟨v, S', v', SM', a1, a2, a3, a4⟩ := bad 1 (by decide) (by
      unfold fX3_readNumber fX3_readNumber_b0
      rw [if_neg e4]
      rfl) (by
      unfold fX12_numberNow fX12_numberNow_b0
      rw [if_pos F.2]
      unfold fX12_numberNow_b9
      rw [if_neg m4]
      rfl)
    exact ⟨v, S', v', SM', a1, a2, a3, fun _ => a4⟩
end
