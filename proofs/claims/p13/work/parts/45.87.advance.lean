noncomputable def tSt (B : Nat → Nat) (n p : Nat) : Nat := ruP (kdB B 5) (n - p) p
noncomputable def tKd (B : Nat → Nat) (n s : Nat) : Nat := if s < n then kd (B s) else 0
noncomputable def tEnd (B : Nat → Nat) (n s : Nat) : Nat := if s < n then (if kd (B s) = 1 ∨ kd (B s) = 2 then ruP (kdB B (kd (B s))) (n - s) s else s + 1) else s
section
variable {B : Nat → Nat} {n s p k N : Nat} {S SM : gS}
theorem tK_ok (hB : ∀ i, i < n → B i < 256) (hp : p ≤ n) (hs : s = tSt B n p) : p ≤ s ∧ tkK n s (tEnd B n s) (tKd B n s) ∧ (tKd B n s = 2 → ∀ i, i < tEnd B n s - s → 48 ≤ B (s + i) ∧ B (s + i) ≤ 57) := by
  have h1 := ruP_le (c := kdB B 5) (n - p) p
  have hps : p ≤ s := by rw [hs]; exact h1.1
  have hsn : s ≤ n := by
    have : s ≤ p + (n - p) := by rw [hs]; exact h1.2
    omega
  refine ⟨hps, ?_⟩
  unfold tkK tEnd tKd
  by_cases q : s < n
  · rw [if_pos q, if_pos q]
    obtain ⟨-, -, k5, k1⟩ := kd_x (B s) (hB s q)
    have hne : ¬ kd (B s) = 5 := by
      have := ruP_st (c := kdB B 5) (n - p) p (by show ruP _ _ _ < _; rw [show ruP (kdB B 5) (n - p) p = s from hs.symm]; omega)
      rw [show ruP (kdB B 5) (n - p) p = s from hs.symm] at this
      exact of_decide_eq_false this
    by_cases r : kd (B s) = 1 ∨ kd (B s) = 2
    · rw [if_pos r]
      have h2 := ruP_le (c := kdB B (kd (B s))) (n - s) s
      have h3 : ruP (kdB B (kd (B s))) (n - s) s = ruP (kdB B (kd (B s))) (n - s - 1) (s + 1) := by
        rw [show n - s = (n - s - 1) + 1 by omega]
        exact ruP_t (decide_eq_true rfl)
      have h4 := ruP_le (c := kdB B (kd (B s))) (n - s - 1) (s + 1)
      refine ⟨⟨h2.1, by omega, by omega, fun z => absurd z (by omega), fun _ => by omega⟩, fun z i hi => ?_⟩
      have all : ∀ m q, ∀ i, q ≤ i → i < ruP (kdB B (kd (B s))) m q → kdB B (kd (B s)) i = true := by
        intro m
        induction m with
        | zero => intro q i a b; exact absurd b (by show ¬ i < q; omega)
        | succ m ih =>
          intro q i a b
          cases hc : kdB B (kd (B s)) q with
          | true =>
            by_cases e : i = q
            · rw [e]; exact hc
            · rw [ruP_t hc] at b
              exact ih (q + 1) i (by omega) b
          | false =>
            rw [ruP_f hc] at b
            exact absurd b (by omega)
      have := all (n - s) s (s + i) (by omega) (by omega)
      have e2 : kd (B (s + i)) = kd (B s) := of_decide_eq_true this
      rw [z] at e2
      exact kd2 _ (hB _ (by omega)) e2
    · rw [if_neg r]
      exact ⟨⟨by omega, by omega, by omega, fun z => absurd z (by omega), fun _ => by omega⟩, fun z => absurd (Or.inr z) r⟩
  · rw [if_neg q, if_neg q]
    exact ⟨⟨Nat.le_refl _, by omega, by decide, fun _ => by omega, fun z => absurd rfl z⟩, fun z => absurd z (by decide)⟩
theorem x_advance (b : byX B n S) (hp : p ≤ n) (h2 : S 2 2 = nI n) (h3 : S 2 3 = nI p) (hs : s = tSt B n p) : ∃ S', fX8_advance 5000 S = some (0, S') ∧ tkX n s (tEnd B n s) (tKd B n s) S' ∧ (tKd B n s = 2 → (tEnd B n s - s ≤ 4 → S' 2 6 = nI (nuN B s (tEnd B n s - s))) ∧ (4 < tEnd B n s - s → S' 2 6 = nI 10000)) ∧ oSame xTk S S' := by
  have b7 := b.1
  obtain ⟨t1, ⟨t2, t3, t4, t5, t6⟩, t7⟩ := tK_ok (fun i hi => (b.2 i hi).1) hp hs
  obtain ⟨S1, a1, a2, a3, a4⟩ := x_adv0 (n - p) p 5000 S (by omega) (by omega) b h2 h3
  have a3 : S1 2 3 = nI s := by rw [hs]; exact a3
  obtain ⟨S2, hS2⟩ : ∃ z, z = sU S1 2 5 (nI s) := ⟨_, rfl⟩
  obtain ⟨S3, hS3⟩ : ∃ z, z = sU (sU S2 2 4 (nI (tKd B n s))) 2 6 0 := ⟨_, rfl⟩
  have s2 : oSame xTk S S2 := by rw [hS2]; exact a4.up rfl
  have s3 : oSame xTk S S3 := by rw [hS3]; exact (s2.up rfl).up rfl
  have c2 : S3 2 2 = nI n := by rw [hS3, sU_n (by omega), sU_n (by omega), hS2, sU_n (by omega)]; exact a2
  have c3 : S3 2 3 = nI s := by rw [hS3, sU_n (by omega), sU_n (by omega), hS2, sU_n (by omega)]; exact a3
  have c5 : S3 2 5 = nI s := by rw [hS3, sU_n (by omega), sU_n (by omega), hS2, sU_ap, if_pos ⟨rfl, rfl⟩]
  have c4 : S3 2 4 = nI (tKd B n s) := by rw [hS3, sU_n (by omega), sU_ap, if_pos ⟨rfl, rfl⟩]
  have c6 : S3 2 6 = nI 0 := by rw [hS3, sU_ap, if_pos ⟨rfl, rfl⟩]; rfl
  have hb39 : fX8_advance 5000 S = fX8_advance_b74 5000 (nI (tKd B n s)) S2 := by
    unfold fX8_advance
    rw [a1]
    unfold fX8_advance_b39
    dsimp only [lt]
    rw [a3, ← hS2]
    have d2 : S2 2 2 = nI n := by rw [hS2, sU_n (by omega)]; exact a2
    have d3 : S2 2 3 = nI s := by rw [hS2, sU_n (by omega)]; exact a3
    rw [d2, d3]
    unfold tKd
    by_cases q : s < n
    · rw [if_neg (nI_ge q (by omega)), if_pos q]
      unfold fX8_advance_b59
      obtain ⟨y1, y2⟩ := (b.on s2).2 s q
      rw [d3, bnd_t (x_at (by omega)), y2]
      dsimp only
      rw [bnd_t (x_kindOf y1 (by decide))]
    · rw [if_pos (nI_le (by omega) (by omega)), if_neg q]
      rfl
  have h74 : fX8_advance 5000 S = fX8_advance_h104 5000 5000 (iv (decide (tKd B n s = 1 ∨ tKd B n s = 2))) S3 := by
    rw [hb39]
    unfold fX8_advance_b74
    dsimp only [lt]
    have d4 : sU S2 2 4 (nI (tKd B n s)) 2 4 = nI (tKd B n s) := by rw [sU_ap, if_pos ⟨rfl, rfl⟩]
    rw [d4]
    by_cases q1 : tKd B n s = 1
    · rw [if_pos (show nI (tKd B n s) = 1 by rw [q1]; rfl), decide_eq_true (Or.inl q1), hS3]
      rfl
    · rw [if_neg (show ¬ nI (tKd B n s) = 1 from fun z => q1 ((nI_eq (b := 1) (by omega) (by omega)).mp z))]
      unfold fX8_advance_b85
      rw [d4]
      by_cases q2 : tKd B n s = 2
      · rw [if_pos (show nI (tKd B n s) = 2 by rw [q2]; rfl), decide_eq_true (Or.inr q2), hS3]
        rfl
      · rw [if_neg (show ¬ nI (tKd B n s) = 2 from fun z => q2 ((nI_eq (b := 2) (by omega) (by omega)).mp z)), decide_eq_false (fun z => z.elim q1 q2), hS3]
        rfl
  have mid : ∃ S4, fX8_advance 5000 S = fX8_advance_b190 5000 S4 ∧ S4 2 3 = nI (tEnd B n s) ∧ (tKd B n s = 2 → tEnd B n s - s ≤ 4 → S4 2 6 = nI (nuN B s (tEnd B n s - s))) ∧ (∀ i j, ¬ (i = 2 ∧ (j = 3 ∨ j = 6)) → S4 i j = S3 i j) := by
    rw [h74]
    by_cases q : s < n
    · have ek : tKd B n s = kd (B s) := if_pos q
      have ee : tEnd B n s = if kd (B s) = 1 ∨ kd (B s) = 2 then ruP (kdB B (kd (B s))) (n - s) s else s + 1 := if_pos q
      by_cases r : kd (B s) = 1 ∨ kd (B s) = 2
      · rw [if_pos r] at ee
        rw [decide_eq_true (by rw [ek]; exact r)]
        obtain ⟨S4, e1, e2, e3, -, e5⟩ := x_advrow (B := B) (n := n) (s := s) (k := kd (B s)) r (n - s) s 5000 S3 (by omega) (by omega) (Nat.le_refl _) (fun _ _ => rfl) (fun i y1 y2 => absurd y1 (by omega)) (b.on s3) c2 c3 c5 (by rw [c4, ek]) (fun _ _ => by rw [c6, Nat.sub_self]; rfl)
        rw [← ee] at e2 e3
        exact ⟨S4, e1, e2, fun z => e3 (by rw [← ek]; exact z), e5⟩
      · rw [if_neg r] at ee
        rw [decide_eq_false (by rw [ek]; exact r), ee]
        obtain ⟨S4, e1, e2, -, e4⟩ := x_adv148 (r := fX8_advance_h104 5000 4999) (x := 0) (b.on s3) q c3
        refine ⟨S4, ?_, e2, fun z => absurd (Or.inr (by rw [← ek]; exact z)) r, e4⟩
        have f2 : S4 2 2 = nI n := by rw [e4 2 2 (by omega)]; exact c2
        have f5 : S4 2 5 = nI s := by rw [e4 2 5 (by omega)]; exact c5
        have l2 : fX8_advance_h104 5000 4999 0 S4 = fX8_advance_b190 5000 S4 := by
          show fX8_advance_b104 5000 (fX8_advance_h104 5000 4998) 0 S4 = _
          unfold fX8_advance_b104
          rw [f2, e2]
          by_cases z : s + 1 < n
          · rw [if_neg (nI_ge z (by omega))]
            unfold fX8_advance_b115
            rw [e2, f5, if_neg (fun w => absurd ((nI_eq (by omega) (by omega)).mp w) (by omega))]
            rfl
          · rw [if_pos (nI_le (by omega) (by omega))]
        rw [← l2, ← e1]
        show fX8_advance_b104 5000 (fX8_advance_h104 5000 4999) 0 S3 = _
        unfold fX8_advance_b104
        rw [c2, c3, if_neg (nI_ge q (by omega))]
        unfold fX8_advance_b115
        rw [c3, c5, if_pos rfl]
    · have ek : tKd B n s = 0 := if_neg q
      have ee : tEnd B n s = s := if_neg q
      rw [ek, ee]
      refine ⟨S3, ?_, c3, fun z => absurd z (by decide), fun _ _ _ => rfl⟩
      show fX8_advance_b104 5000 (fX8_advance_h104 5000 4999) _ S3 = _
      unfold fX8_advance_b104
      rw [c2, c3, if_pos (nI_le (by omega) (by omega))]
  obtain ⟨S4, d1, d2, d3, d4⟩ := mid
  obtain ⟨S5, g1, g2, g3, g4⟩ := x_adv190 (S := S4) (s := s) (p := tEnd B n s) t2 (by omega) d2 (by rw [d4 2 5 (by omega)]; exact c5)
  refine ⟨S5, d1.trans g1, ⟨?_, ?_, ?_, ?_⟩, fun z => ⟨fun y => ?_, g3⟩, fun i j z => ?_⟩
  · rw [g4 2 2 (by omega), d4 2 2 (by omega)]; exact c2
  · rw [g4 2 3 (by omega)]; exact d2
  · rw [g4 2 5 (by omega), d4 2 5 (by omega)]; exact c5
  · rw [g4 2 4 (by omega), d4 2 4 (by omega)]; exact c4
  · rw [g2 y]; exact d3 z y
  · have n1 : ¬ (i = 2 ∧ (j = 3 ∨ j = 6)) := by
      rintro ⟨w1, w2 | w2⟩ <;> rw [w1, w2] at z <;> cases z
    rw [g4 i j (by omega), d4 i j n1]
    exact s3 i j z
end
