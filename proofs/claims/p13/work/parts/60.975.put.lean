section
variable {B : Nat → Nat} {n s p k N : Nat} {S SM : gS}
/-- a number is read, and put down on both sides -/
theorem j_put {lo hi A b M m : Nat} (hl : lo ≤ 9999) (hh : hi ≤ 9999) (hA : A ≠ 1 ∧ A ≠ 2 ∧ A ≠ 3) (hM : M ≠ 99 ∧ M ≠ 19) (T : tkJ B n s p k S SM) (h : fine S SM ∨ flt S SM) : ∃ v S1 v' SM1, fX3_readNumber 5000 (nI lo) (nI hi) S = some (v, S1) ∧ fX12_readNumber 5000 (nI lo) (nI hi) SM = some (v', SM1) ∧ oSame xNu S S1 ∧ oSame mNu SM SM1 ∧ ∃ s' p' k', tkJ B n s' p' k' (sU S1 A b v) (sU SM1 M m v') ∧ ((fine S SM ∧ s + 1 ≤ s' ∧ fine (sU S1 A b v) (sU SM1 M m v') ∧ ∃ y, lo ≤ y ∧ y ≤ hi ∧ v = nI y ∧ v' = nI y) ∨ flt (sU S1 A b v) (sU SM1 M m v')) := by
  have put : ∀ (S1 SM1 : gS) (v v' : Int32) (s' p' k' : Nat), tkJ B n s' p' k' S1 SM1 → tkJ B n s' p' k' (sU S1 A b v) (sU SM1 M m v') ∧ (fine S1 SM1 → fine (sU S1 A b v) (sU SM1 M m v')) ∧ (flt S1 SM1 → flt (sU S1 A b v) (sU SM1 M m v')) := by
    intro S1 SM1 v v' s' p' k' T1
    refine ⟨T1.on (fun j => sU_n (by omega)) (fun j => sU_n (by omega)) (fun j _ _ => sU_n (by omega)) (fun j _ => sU_n (by omega)), fun F => ⟨?_, ?_⟩, fun F => ?_⟩
    · exact ⟨by rw [sU_n (by omega)]; exact F.1.1, by rw [sU_n (by omega)]; exact F.1.2⟩
    · rw [sU_n (by omega)]; exact F.2
    · obtain ⟨q, q1, q2, q3, q4, q5⟩ := F
      exact ⟨q, q1, q2, by rw [sU_n (by omega)]; exact q3, by rw [sU_n (by omega)]; exact q4, by rw [sU_n (by omega), sU_n (by omega)]; exact q5⟩
  rcases h with F | F
  · obtain ⟨v, S1, v', SM1, b1, b2, ⟨o1, o2, s2, p2, k2, T2, h⟩, -⟩ := j_num (lo := lo) (hi := hi) hl hh T F
    obtain ⟨t1, t2, t3⟩ := put S1 SM1 v v' s2 p2 k2 T2
    rcases h with ⟨F2, e2, -, y, y1, y2, y3, y4⟩ | h
    · exact ⟨v, S1, v', SM1, b1, b2, o1, o2, s2, p2, k2, t1, Or.inl ⟨F, e2, t2 F2, y, y1, y2, y3, y4⟩⟩
    · exact ⟨v, S1, v', SM1, b1, b2, o1, o2, s2, p2, k2, t1, Or.inr (t3 h)⟩
  · obtain ⟨b1, b2⟩ := j_num0 (lo := lo) (hi := hi) T F
    obtain ⟨t1, t2, t3⟩ := put S SM (S 2 6) 0 s p k T
    exact ⟨S 2 6, S, 0, SM, b1, b2, oSame.rf, oSame.rf, s, p, k, t1, Or.inr (t3 F)⟩
end
