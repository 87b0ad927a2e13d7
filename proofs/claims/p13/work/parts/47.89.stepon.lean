section
variable {B : Nat → Nat} {n s p k N : Nat} {S SM : gS}
theorem m_stepOn (b : byM B n S) (hp : p ≤ n) (h2 : S 99 22 = nI n) (h3 : S 99 21 = nI p) (hs : s = tSt B n p) : ∃ S', fX12_stepOn 5000 S = some (0, S') ∧ tkM n s (tEnd B n s) (tKd B n s) S' ∧ (tKd B n s = 2 → tEnd B n s - s ≤ 4 → S' 99 24 = nI (nuN B s (tEnd B n s - s))) ∧ oSame mTk S S' := by
  have b7 := b.1
  obtain ⟨t1, ⟨t2, t3, t4, t5, t6⟩, t7⟩ := tK_ok (fun i hi => (b.2 i hi).1) hp hs
  obtain ⟨S1, a1, a3, a4⟩ := m_st0 (n - p) p 5000 S (by omega) (by omega) b h2 h3
  have a3 : S1 99 21 = nI s := by rw [hs]; exact a3
  obtain ⟨S2, hS2⟩ : ∃ z, z = sU S1 99 25 (nI s) := ⟨_, rfl⟩
  have s2 : oSame mTk S S2 := by rw [hS2]; exact a4.up rfl
  have c2 : S2 99 22 = nI n := by rw [s2 99 22 rfl]; exact h2
  have c3 : S2 99 21 = nI s := by rw [hS2, sU_n (by omega)]; exact a3
  have c5 : S2 99 25 = nI s := by rw [hS2, sU_ap, if_pos ⟨rfl, rfl⟩]
  have b2 := b.on s2
  have hb : fX12_stepOn 5000 S = if (if s < n then nI (B s) else -1) = (-1) then fX12_stepOn_b61 5000 S2 else fX12_stepOn_b69 5000 (if s < n then nI (B s) else -1) S2 := by
    unfold fX12_stepOn
    rw [a1]
    unfold fX12_stepOn_b39
    dsimp only [lt]
    rw [a3, ← hS2, c3, bnd_t (m_byteAt b2 c2 (by omega))]
  -- the end of the step
  have fin : ∀ (S4 : gS), S4 99 21 = nI (tEnd B n s) → S4 99 22 = nI n → S4 99 25 = nI s → S4 99 23 = nI (tKd B n s) → (tKd B n s = 2 → tEnd B n s - s ≤ 4 → S4 99 24 = nI (nuN B s (tEnd B n s - s))) → oSame mTk S S4 → ∃ S', fX12_stepOn_b212 5000 S4 = some (0, S') ∧ tkM n s (tEnd B n s) (tKd B n s) S' ∧ (tKd B n s = 2 → tEnd B n s - s ≤ 4 → S' 99 24 = nI (nuN B s (tEnd B n s - s))) ∧ oSame mTk S S' := by
    intro S4 g1 g2 g3 g4 g5 g6
    refine ⟨sU S4 99 26 (nI (tEnd B n s)), ?_, ⟨?_, ?_, ?_, ?_, ?_⟩, fun z1 z2 => ?_, g6.up rfl⟩
    · unfold fX12_stepOn_b212
      dsimp only [lt]
      rw [g1]
    · rw [sU_n (by omega)]; exact g2
    · rw [sU_n (by omega)]; exact g1
    · rw [sU_ap, if_pos ⟨rfl, rfl⟩]
    · rw [sU_n (by omega)]; exact g3
    · rw [sU_n (by omega)]; exact g4
    · rw [sU_n (by omega)]; exact g5 z1 z2
  rw [hb]
  by_cases q : s < n
  · obtain ⟨y1, y2⟩ := b2.2 s q
    have ek : tKd B n s = kd (B s) := if_pos q
    have ee : tEnd B n s = if kd (B s) = 1 ∨ kd (B s) = 2 then ruP (kdB B (kd (B s))) (n - s) s else s + 1 := if_pos q
    rw [if_pos q, if_neg (nI_nem (by omega))]
    unfold fX12_stepOn_b69
    rw [bnd_t (m_isLetter y1)]
    by_cases k1 : kd (B s) = 1
    · rw [decide_eq_true k1]
      rw [if_pos (Or.inl k1), k1] at ee
      show ∃ S', fX12_stepOn_h76 5000 5000 S2 = _ ∧ _
      obtain ⟨S3, e1, e2, e3⟩ := m_st76 (B := B) (n := n) (n - s) s 5000 S2 (by omega) (by omega) b2 c2 c3
      rw [← ee] at e2
      rw [e1]
      show ∃ S', fX12_stepOn_b212 5000 (sU S3 99 23 1) = _ ∧ _
      refine fin (sU S3 99 23 1) ?_ ?_ ?_ ?_ ?_ ?_
      · rw [sU_n (by omega)]; exact e2
      · rw [sU_n (by omega), e3 99 22 (by omega)]; exact c2
      · rw [sU_n (by omega), e3 99 25 (by omega)]; exact c5
      · rw [sU_ap, if_pos ⟨rfl, rfl⟩, ek, k1]; rfl
      · intro z; rw [ek, k1] at z; cases z
      · refine oSame.up (fun i j z => ?_) rfl
        rw [e3 i j (fun w => by rw [w.1, w.2] at z; cases z)]
        exact s2 i j z
    · rw [decide_eq_false k1]
      show ∃ S', fX12_stepOn_b111 5000 (nI (B s)) S2 = _ ∧ _
      unfold fX12_stepOn_b111
      rw [bnd_t (m_isDigit y1)]
      by_cases k2 : kd (B s) = 2
      · rw [decide_eq_true k2]
        rw [if_pos (Or.inr k2), k2] at ee
        show ∃ S', fX12_stepOn_h123 5000 5000 (sU S2 99 24 0) = _ ∧ _
        obtain ⟨S3, e1, e2, e4, e3⟩ := m_st123 (B := B) (n := n) (s := s) (n - s) s 5000 (sU S2 99 24 0) (by omega) (by omega) (Nat.le_refl _) (fun i z1 z2 => absurd z1 (by omega)) (b2.on (oSame.rf.up rfl)) (by rw [sU_n (by omega)]; exact c2) (by rw [sU_n (by omega)]; exact c3) (fun _ => by rw [sU_ap, if_pos ⟨rfl, rfl⟩, Nat.sub_self]; rfl)
        rw [← ee] at e2 e4
        rw [e1]
        show ∃ S', fX12_stepOn_b212 5000 (sU S3 99 23 2) = _ ∧ _
        refine fin (sU S3 99 23 2) ?_ ?_ ?_ ?_ ?_ ?_
        · rw [sU_n (by omega)]; exact e2
        · rw [sU_n (by omega), e3 99 22 (by omega), sU_n (by omega)]; exact c2
        · rw [sU_n (by omega), e3 99 25 (by omega), sU_n (by omega)]; exact c5
        · rw [sU_ap, if_pos ⟨rfl, rfl⟩, ek, k2]; rfl
        · intro _ z; rw [sU_n (by omega)]; exact e4 z
        · refine oSame.up (fun i j z => ?_) rfl
          rw [e3 i j (fun w => by rcases w with ⟨w1, w2 | w2⟩ <;> rw [w1, w2] at z <;> cases z), sU_n (fun w => by rw [w.1, w.2] at z; cases z)]
          exact s2 i j z
      · rw [decide_eq_false k2]
        rw [if_neg (fun z => z.elim k1 k2)] at ee
        show ∃ S', fX12_stepOn_b186 5000 (nI (B s)) S2 = _ ∧ _
        unfold fX12_stepOn_b186
        dsimp only [lt]
        rw [c3, nI_1 s, bnd_t (m_isMark y1)]
        have hk34 : kd (B s) = 3 ∨ kd (B s) = 4 := by
          rw [ek] at t4
          have := (kd_x (B s) y1).2.2.2
          omega
        have bb : (if iv (decide (kd (B s) = 3)) = 0 then fX12_stepOn_b208 5000 (sU S2 99 21 (nI (s + 1))) else fX12_stepOn_b204 5000 (sU S2 99 21 (nI (s + 1)))) = fX12_stepOn_b212 5000 (sU (sU S2 99 21 (nI (s + 1))) 99 23 (nI (kd (B s)))) := by
          rcases hk34 with r | r <;> rw [r] <;> rfl
        dsimp only
        rw [bb]
        refine fin (sU (sU S2 99 21 (nI (s + 1))) 99 23 (nI (kd (B s)))) ?_ ?_ ?_ ?_ ?_ ?_
        · rw [sU_n (by omega), sU_ap, if_pos ⟨rfl, rfl⟩, ee]
        · rw [sU_n (by omega), sU_n (by omega)]; exact c2
        · rw [sU_n (by omega), sU_n (by omega)]; exact c5
        · rw [sU_ap, if_pos ⟨rfl, rfl⟩, ek]
        · intro z; rw [ek] at z; exact absurd z k2
        · exact (s2.up rfl).up rfl
  · have ek : tKd B n s = 0 := if_neg q
    have ee : tEnd B n s = s := if_neg q
    rw [if_neg q, if_pos rfl]
    show ∃ S', fX12_stepOn_b212 5000 (sU S2 99 23 0) = _ ∧ _
    refine fin (sU S2 99 23 0) ?_ ?_ ?_ ?_ ?_ ?_
    · rw [sU_n (by omega), ee]; exact c3
    · rw [sU_n (by omega)]; exact c2
    · rw [sU_n (by omega)]; exact c5
    · rw [sU_ap, if_pos ⟨rfl, rfl⟩, ek]; rfl
    · intro z; rw [ek] at z; cases z
    · exact s2.up rfl
/-- both sides take the next token -/
theorem j_step (b : byJ B n S SM) (hp : p ≤ n) (h2 : S 2 2 = nI n) (h3 : S 2 3 = nI p) (m2 : SM 99 22 = nI n) (m3 : SM 99 21 = nI p) : ∃ S' SM' s' p' k', fX8_advance 5000 S = some (0, S') ∧ fX12_stepOn 5000 SM = some (0, SM') ∧ tkJ B n s' p' k' S' SM' ∧ p ≤ s' ∧ oSame xTk S S' ∧ oSame mTk SM SM' := by
  have bX : byX B n S := ⟨b.1, fun i hi => ⟨(b.2 i hi).1, (b.2 i hi).2.1⟩⟩
  have bM : byM B n SM := ⟨b.1, fun i hi => ⟨(b.2 i hi).1, (b.2 i hi).2.2⟩⟩
  obtain ⟨S', x1, x2, x3, x4⟩ := x_advance bX hp h2 h3 rfl
  obtain ⟨SM', y1, y2, y3, y4⟩ := m_stepOn bM hp m2 m3 rfl
  obtain ⟨t1, t2, t3⟩ := tK_ok (fun i hi => (b.2 i hi).1) hp (rfl : tSt B n p = tSt B n p)
  refine ⟨S', SM', _, _, _, x1, y1, ⟨⟨b.1, fun i hi => ⟨(b.2 i hi).1, by rw [x4 3 i rfl]; exact (b.2 i hi).2.1, by rw [y4 19 i rfl]; exact (b.2 i hi).2.2⟩⟩, x2, y2, t2, fun z => ⟨fun w => ⟨_, ?_, (x3 z).1 w, y3 z w⟩, (x3 z).2⟩⟩, t1, x4, y4⟩
  have hl := nuN_lt (B := B) (s := tSt B n p) (tEnd B n (tSt B n p) - tSt B n p) (t3 z)
  have hp4 : (10 : Nat) ^ (tEnd B n (tSt B n p) - tSt B n p) ≤ 10 ^ 4 := Nat.pow_le_pow_right (by decide) w
  omega
end
