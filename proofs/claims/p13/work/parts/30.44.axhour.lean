/-! the class's HOUR of one GUILD -/
theorem env_eq {Y Z : gS} {k : Nat} {si pu we ho gr : Int32} (h1 : Y 1 k = Z 1 k) (h3 : Y 3 k = Z 3 k) : env Y k si pu we ho gr = env Z k si pu we ho gr := by
  unfold env
  rw [h1, h3]
theorem x_isTold {N k0 n : Nat} {S : gS} (hn : S k0 3 = nI n) (h7 : n ≤ 700) : fX4_isTold N k0 S = some (if n = 0 then 0 else 1, S) := by
  unfold fX4_isTold fX4_isTold_b0
  by_cases h0 : n = 0
  · subst h0
    rw [hn, if_pos (show nI 0 ≤ 0 by decide)]
    rfl
  · rw [hn, if_neg (nI_nle (by omega) (by omega)), if_neg h0]
    rfl
section
variable {N T k : Nat} {Z S : gS}
theorem x_pray (hT : T = 72 ∨ T = 4) (Zk : tOK Z) (hx : tXz T Z S) (hk : k < tn0 Z) (h4 : S 51 4 = nI k) (hN : 700 < N) : ∃ r, fX10_pray N T S = some (0, sU (sN S (T + 12) r) 51 1 (prZ Z k (S 51 1) (S 51 2) (S 51 6) (S 51 5) (S 51 0))) := by
  obtain ⟨⟨-, z0⟩, -, -, -, -, -, ⟨p1, p2, p3⟩, -⟩ := Zk
  have hp : S (T + 10) 3 = nI (tnp Z) := by rw [hx 10 3 (by omega) (by omega)]; exact p1
  have hc : S (T + 10 + 1) = Z 11 := funext fun j => hx 11 j (by omega) (by omega)
  unfold fX10_pray fX10_pray_b0
  rw [bnd_t (x_isTold hp p2)]
  by_cases h0 : tnp Z = 0
  · refine ⟨S (T + 12), ?_⟩
    rw [if_pos h0]
    show fX10_pray_b22 N S = _
    unfold fX10_pray_b22 fX10_pray_b23
    dsimp only [lt]
    rw [sN_self]
    unfold prZ prS
    rw [if_pos h0]
  · obtain ⟨r, hr⟩ := x_worth (N := N) (T := T) (k0 := T + 10) (k := k) (by omega) h4 (by omega) (by omega) (by omega) (by rcases hT with rfl | rfl <;> rfl) hp p2 h0 (by rw [hc]; exact p3) hN
    rw [hc, env_eq (Z := Z) (hx 1 k (by omega) (by omega)) (hx 3 k (by omega) (by omega))] at hr
    refine ⟨r, ?_⟩
    rw [if_neg h0]
    show fX10_pray_b10 N T S = _
    unfold fX10_pray_b10
    rw [bnd_t hr]
    show some (0, sU (sN S (T + 10 + 2) r) 51 1 (prS (rV (Z 11) (tnp Z) (env Z k (S 51 1) (S 51 2) (S 51 6) (S 51 5) (S 51 0))) (sN S (T + 10 + 2) r 51 1))) = _
    rw [sN_n (show 51 ≠ T + 10 + 2 by omega)]
    unfold prZ
    rw [if_neg h0]
theorem x_cost (hT : T = 72 ∨ T = 4) (Zk : tOK Z) (hx : tXz T Z S) (hk : k < tn0 Z) (h4 : S 51 4 = nI k) (hN : 700 < N) : ∃ r, fX10_cost N T S = some (coZ Z k (S 51 1) (S 51 2) (S 51 6) (S 51 5) (S 51 0), sN S (T + 15) r) := by
  obtain ⟨⟨z00, z0⟩, -, -, -, -, -, -, ⟨p1, p2, p3⟩⟩ := Zk
  have hp : S (T + 13) 3 = nI (tnc Z) := by rw [hx 13 3 (by omega) (by omega)]; exact p1
  have hc : S (T + 13 + 1) = Z 14 := funext fun j => hx 14 j (by omega) (by omega)
  have h00 : S T 0 = nI (tn0 Z) := (hx 0 0 (by omega) (by omega)).trans z00
  unfold fX10_cost fX10_cost_b0
  rw [h4, bnd_t (x_isGrotto h00 (by omega)), inb_t hk (by omega)]
  show ∃ r, fX10_cost_b13 N T S = _
  unfold fX10_cost_b13
  rw [bnd_t (x_isTold hp p2)]
  by_cases h0 : tnc Z = 0
  · refine ⟨S (T + 15), ?_⟩
    rw [if_pos h0]
    show fX10_cost_b35 N T S = _
    unfold fX10_cost_b35
    rw [h4, chk_t (inb_t (by omega) (by decide)), nI_clamp (by omega), hx 3 k (by omega) (by omega)]
    unfold fX10_cost_b44
    rw [sN_self]
    unfold coZ c50
    rw [if_pos h0]
  · obtain ⟨r, hr⟩ := x_worth (N := N) (T := T) (k0 := T + 13) (k := k) (by omega) h4 (by omega) (by omega) (by omega) (by rcases hT with rfl | rfl <;> rfl) hp p2 h0 (by rw [hc]; exact p3) hN
    rw [hc, env_eq (Z := Z) (hx 1 k (by omega) (by omega)) (hx 3 k (by omega) (by omega))] at hr
    refine ⟨r, ?_⟩
    rw [if_neg h0]
    show fX10_cost_b23 N T S = _
    unfold fX10_cost_b23
    rw [bnd_t hr]
    unfold fX10_cost_b44 coZ c50
    rw [if_neg h0]
theorem x_cost0 (Zk : tOK Z) (hx : tXz T Z S) (h4 : S 51 4 = -1) : fX10_cost N T S = some (0, S) := by
  obtain ⟨⟨z00, z0⟩, -⟩ := Zk
  have h00 : S T 0 = nI (tn0 Z) := (hx 0 0 (by omega) (by omega)).trans z00
  unfold fX10_cost fX10_cost_b0
  rw [h4, bnd_t (x_isGrotto h00 (by omega)), inb_f1 (by decide)]
  rfl
def wkA (S : gS) (e d ho : Int32) (q : qT) : Prop := S 51 0 = e ∧ S 51 1 = q.1 ∧ S 51 2 = q.2.1 ∧ S 51 3 = q.2.2.1 ∧ S 51 4 = q.2.2.2 ∧ S 51 5 = ho ∧ S 51 7 = d
noncomputable def xWk (i _j : Nat) : Bool := i == 51 || i == 16 || i == 19 || i == 84 || i == 87
theorem oSame.upN {P : Nat → Nat → Bool} {S S' : gS} {a : Nat} {r : Nat → Int32} (h : oSame P S S') (hs : ∀ j, P a j = true) : oSame P S (sN S' a r) := by
  intro i j k
  by_cases h2 : i = a
  · rw [h2, hs] at k
    cases k
  · rw [sN_n h2]
    exact h i j k
theorem tXz.on {S' : gS} (hT : T = 72 ∨ T = 4) (hx : tXz T Z S) (s : oSame xWk S S') : tXz T Z S' := by
  intro i j h1 h2
  rw [s (T + i) j ?_]
  · exact hx i j h1 h2
  · unfold xWk
    rcases hT with rfl | rfl
    · rcases (show i = 0 ∨ i = 1 ∨ i = 2 ∨ i = 3 ∨ i = 4 ∨ i = 5 ∨ i = 6 ∨ i = 7 ∨ i = 8 ∨ i = 9 ∨ i = 10 ∨ i = 11 ∨ i = 13 ∨ i = 14 by omega) with rfl | rfl | rfl | rfl | rfl | rfl | rfl | rfl | rfl | rfl | rfl | rfl | rfl | rfl <;> rfl
    · rcases (show i = 0 ∨ i = 1 ∨ i = 2 ∨ i = 3 ∨ i = 4 ∨ i = 5 ∨ i = 6 ∨ i = 7 ∨ i = 8 ∨ i = 9 ∨ i = 10 ∨ i = 11 ∨ i = 13 ∨ i = 14 by omega) with rfl | rfl | rfl | rfl | rfl | rfl | rfl | rfl | rfl | rfl | rfl | rfl | rfl | rfl <;> rfl
theorem x_ph132 (Zk : tOK Z) (hx : tXz T Z S) : fX10_passHour_b132 N T S = some (iv (decide (¬ S 51 1 ≤ bdZ Z)), if S 51 1 ≤ bdZ Z then sU S 51 5 (S 51 5 + 1) else sU (sU (sU S 51 2 (S 51 2 / 2)) 51 3 (sl1 (S 51 3))) 51 5 (S 51 5 + 1)) := by
  obtain ⟨-, -, -, ⟨z12, zb⟩, -⟩ := Zk
  have hb : S T 12 = nI (tnb Z) := (hx 0 12 (by omega) (by omega)).trans z12
  unfold fX10_passHour_b132
  rw [bnd_t (x_mostSin hb (by omega))]
  show (if S 51 1 ≤ bdZ Z then _ else _) = _
  by_cases h : S 51 1 ≤ bdZ Z
  · rw [if_pos h, if_pos h, decide_eq_false (fun q => q h)]
    rfl
  · rw [if_neg h, if_neg h, decide_eq_true h]
    show fX10_passHour_b155 N 1 S = _
    unfold fX10_passHour_b155
    dsimp only [lt]
    rw [sU_n (i := 51) (j := 3) (by omega)]
    show fX10_passHour_b181 N 1 (sU (sU S 51 2 (S 51 2 / 2)) 51 3 (sl1 (S 51 3))) = _
    unfold fX10_passHour_b181
    dsimp only [lt]
    rw [sU_n (i := 51) (j := 5) (by omega), sU_n (i := 51) (j := 5) (by omega)]
    rfl
end
section
variable {N T : Nat} {Z S : gS} {e d ho we : Int32} {q : qT}
/-- behind the paying -/
theorem x_phEnd {S3 : gS} (hT : T = 72 ∨ T = 4) (Zk : tOK Z) (hx : tXz T Z S) (s : oSame xWk S S3) (w0 : S3 51 0 = e) (w1 : S3 51 1 = fS e q) (w2 : S3 51 2 = (fH Z e we ho q).1) (w3 : S3 51 3 = q.2.2.1) (w4 : S3 51 4 = (fH Z e we ho q).2) (w5 : S3 51 5 = ho) (w7 : S3 51 7 = d) : ∃ S', fX10_passHour_b132 N T S3 = some (iv (hFin Z e we ho q).1, S') ∧ wkA S' e d (ho + 1) (hFin Z e we ho q).2 ∧ oSame xWk S S' := by
  refine ⟨(if fS e q ≤ bdZ Z then sU S3 51 5 (ho + 1) else sU (sU (sU S3 51 2 ((fH Z e we ho q).1 / 2)) 51 3 (sl1 q.2.2.1)) 51 5 (ho + 1)), ?_, ?_⟩
  · rw [x_ph132 Zk (hx.on hT s), w1, w2, w3, w5]
    rfl
  · unfold hFin fB
    by_cases h : fS e q ≤ bdZ Z
    · rw [if_pos h, decide_eq_false (fun q => q h)]
      refine ⟨⟨?_, ?_, ?_, ?_, ?_, ?_, ?_⟩, s.up rfl⟩
      · rw [sU_n (by omega)]; exact w0
      · rw [sU_n (by omega)]; exact w1
      · rw [sU_n (by omega)]; exact w2
      · rw [sU_n (by omega)]; exact w3
      · rw [sU_n (by omega)]; exact w4
      · rw [sU_s]
      · rw [sU_n (by omega)]; exact w7
    · rw [if_neg h, decide_eq_true h]
      refine ⟨⟨?_, ?_, ?_, ?_, ?_, ?_, ?_⟩, ((s.up rfl).up rfl).up rfl⟩
      · rw [sU_n (by omega), sU_n (by omega), sU_n (by omega)]; exact w0
      · rw [sU_n (by omega), sU_n (by omega), sU_n (by omega)]; exact w1
      · rw [sU_n (by omega), sU_n (by omega), sU_s]; rfl
      · rw [sU_n (by omega), sU_s]; rfl
      · rw [sU_n (by omega), sU_n (by omega), sU_n (by omega)]; exact w4
      · rw [sU_s]
      · rw [sU_n (by omega), sU_n (by omega), sU_n (by omega)]; exact w7
theorem x_ph61 (hT : T = 72 ∨ T = 4) (Zk : tOK Z) (hx : tXz T Z S) (hq : qOK (tn0 Z) q) (he : ∃ x : Nat, x ≤ 9 ∧ e = nI x) (h6 : S 51 6 = we) (W : wkA S e d ho q) (hN : 700 < N) : ∃ S', fX10_passHour_b61 N T S = some (iv (hFin Z e we ho q).1, S') ∧ wkA S' e d (ho + 1) (hFin Z e we ho q).2 ∧ oSame xWk S S' := by
  obtain ⟨w0, w1, w2, w3, w4, w5, w7⟩ := W
  have l0 : ∀ x, sU S 51 2 x 51 0 = e := fun x => by rw [sU_n (by omega)]; exact w0
  have l1 : ∀ x, sU S 51 2 x 51 1 = q.1 := fun x => by rw [sU_n (by omega)]; exact w1
  obtain ⟨S2, hS2⟩ : ∃ z, z = sU (sU S 51 2 (fP e q)) 51 1 (fS e q) := ⟨_, rfl⟩
  have hb : fX10_passHour_b61 N T S = bnd (fX10_cost N T S2) (fun q1 => if (q1.2 51 2) < q1.1 then fX10_passHour_b127 N T q1.2 else fX10_passHour_b114 N T q1.1 q1.2) := by
    unfold fX10_passHour_b61
    dsimp only [lt]
    rw [w0, w2, l1, l0, hS2]
    rfl
  have s2 : oSame xWk S S2 := by rw [hS2]; exact (oSame.rf.up rfl).up rfl
  have v0 : S2 51 0 = e := by rw [hS2, sU_n (by omega), sU_n (by omega)]; exact w0
  have v1 : S2 51 1 = fS e q := by rw [hS2, sU_s]
  have v2 : S2 51 2 = fP e q := by rw [hS2, sU_n (by omega), sU_s]
  have v3 : S2 51 3 = q.2.2.1 := by rw [hS2, sU_n (by omega), sU_n (by omega)]; exact w3
  have v4 : S2 51 4 = q.2.2.2 := by rw [hS2, sU_n (by omega), sU_n (by omega)]; exact w4
  have v5 : S2 51 5 = ho := by rw [hS2, sU_n (by omega), sU_n (by omega)]; exact w5
  have v6 : S2 51 6 = we := by rw [hS2, sU_n (by omega), sU_n (by omega)]; exact h6
  have v7 : S2 51 7 = d := by rw [hS2, sU_n (by omega), sU_n (by omega)]; exact w7
  rw [hb]
  clear hb hS2
  have hP : ¬ fP e q < 0 := by
    obtain ⟨x, hx, rfl⟩ := he
    obtain ⟨b, hb, eb⟩ := i32_999 hq.2.1
    unfold fP
    rw [eb, hp1_n hx hb]
    exact nI_pos (by omega)
  rcases hq.2.2.2 with h | ⟨k, hk, h⟩
  · rw [bnd_t (x_cost0 Zk (hx.on hT s2) (by rw [v4]; exact h))]
    show ∃ S', (if S2 51 2 < 0 then _ else _) = _ ∧ _
    rw [v2, if_neg hP]
    unfold fX10_passHour_b114
    dsimp only [lt]
    rw [v2, Int32.sub_zero]
    have f : fH Z e we ho q = (fP e q, -1) := by unfold fH; rw [if_pos h]
    refine x_phEnd hT Zk hx (s2.up rfl) ?_ ?_ ?_ ?_ ?_ ?_ ?_
    · rw [sU_n (by omega)]; exact v0
    · rw [sU_n (by omega)]; exact v1
    · rw [sU_s, f]
    · rw [sU_n (by omega)]; exact v3
    · rw [sU_n (by omega), f, v4]; exact h
    · rw [sU_n (by omega)]; exact v5
    · rw [sU_n (by omega)]; exact v7
  · obtain ⟨r, hr⟩ := x_cost hT Zk (hx.on hT s2) hk (by rw [v4]; exact h) hN
    have n51 : 51 ≠ T + 15 := by omega
    have s3 : oSame xWk S (sN S2 (T + 15) r) := s2.upN (fun j => by rcases hT with rfl | rfl <;> rfl)
    have hne : ¬ q.2.2.2 = -1 := by
      rw [h]
      intro q9
      have := nI_pos (n := k) (by have := Zk.1.2; omega)
      rw [q9] at this
      exact this (by decide)
    have hkk : qk q = k := by
      unfold qk
      rw [h, nI_clamp (by have := Zk.1.2; omega)]
    have hC : coZ Z k (S2 51 1) (S2 51 2) (S2 51 6) (S2 51 5) (S2 51 0) = fC Z e we ho q := by
      unfold fC
      rw [hkk, v0, v1, v2, v5, v6]
    rw [hC] at hr
    rw [bnd_t hr]
    show ∃ S', (if sN S2 (T + 15) r 51 2 < fC Z e we ho q then _ else _) = _ ∧ _
    rw [sN_n n51, v2]
    by_cases hl : fP e q < fC Z e we ho q
    · rw [if_pos hl]
      unfold fX10_passHour_b127
      dsimp only [lt]
      have f : fH Z e we ho q = (fP e q, -1) := by unfold fH; rw [if_neg hne, if_pos hl]
      refine x_phEnd hT Zk hx (s3.up rfl) ?_ ?_ ?_ ?_ ?_ ?_ ?_
      · rw [sU_n (by omega), sN_n n51]; exact v0
      · rw [sU_n (by omega), sN_n n51]; exact v1
      · rw [sU_n (by omega), sN_n n51, f]; exact v2
      · rw [sU_n (by omega), sN_n n51]; exact v3
      · rw [sU_s, f]
      · rw [sU_n (by omega), sN_n n51]; exact v5
      · rw [sU_n (by omega), sN_n n51]; exact v7
    · rw [if_neg hl]
      unfold fX10_passHour_b114
      dsimp only [lt]
      rw [sN_n n51, v2]
      have f : fH Z e we ho q = (fP e q - fC Z e we ho q, q.2.2.2) := by unfold fH; rw [if_neg hne, if_neg hl]
      refine x_phEnd hT Zk hx (s3.up rfl) ?_ ?_ ?_ ?_ ?_ ?_ ?_
      · rw [sU_n (by omega), sN_n n51]; exact v0
      · rw [sU_n (by omega), sN_n n51]; exact v1
      · rw [sU_s, f]
      · rw [sU_n (by omega), sN_n n51]; exact v3
      · rw [sU_n (by omega), sN_n n51, f]; exact v4
      · rw [sU_n (by omega), sN_n n51]; exact v5
      · rw [sU_n (by omega), sN_n n51]; exact v7
theorem x_pray2 {k : Nat} {s : Int32} (hT : T = 72 ∨ T = 4) (Zk : tOK Z) (hx : tXz T Z S) (hk : k < tn0 Z) (h4 : q.2.2.2 = nI k) (h6 : S 51 6 = we) (W : wkA S e d ho (s, q.2)) (hN : 700 < N) : ∃ S', fX10_pray N T S = some (0, S') ∧ wkA S' e d ho (prZ Z k s q.2.1 we ho e, q.2) ∧ S' 51 6 = we ∧ oSame xWk S S' := by
  obtain ⟨w0, w1, w2, w3, w4, w5, w7⟩ := W
  obtain ⟨r, hr⟩ := x_pray hT Zk hx hk (w4.trans h4) hN
  have n51 : 51 ≠ T + 12 := by omega
  refine ⟨_, hr, ⟨?_, ?_, ?_, ?_, ?_, ?_, ?_⟩, ?_, (oSame.rf.upN (fun j => by rcases hT with rfl | rfl <;> rfl)).up rfl⟩
  · rw [sU_n (by omega), sN_n n51]; exact w0
  · rw [sU_s, w0, w1, w2, w5, h6]
  · rw [sU_n (by omega), sN_n n51]; exact w2
  · rw [sU_n (by omega), sN_n n51]; exact w3
  · rw [sU_n (by omega), sN_n n51]; exact w4
  · rw [sU_n (by omega), sN_n n51]; exact w5
  · rw [sU_n (by omega), sN_n n51]; exact w7
  · rw [sU_n (by omega), sN_n n51]; exact h6
theorem nI_nem {k : Nat} (h : k < 2 ^ 31) : ¬ nI k = -1 := fun q => by
  have := nI_pos h
  rw [q] at this
  exact this (by decide)
theorem x_passHour (hT : T = 72 ∨ T = 4) (Zk : tOK Z) (hx : tXz T Z S) (hq : qOK (tn0 Z) q) (he : ∃ x : Nat, x ≤ 9 ∧ e = nI x) (W : wkA S e d ho q) (hN : 700 < N) : ∃ S', fX10_passHour N T we S = some (iv (hG Z e d we ho q).1, S') ∧ wkA S' e d (ho + 1) (hG Z e d we ho q).2 ∧ oSame xWk S S' := by
  have z8 := Zk.1.2
  obtain ⟨S1, hS1⟩ : ∃ z, z = sU S 51 6 we := ⟨_, rfl⟩
  have s1 : oSame xWk S S1 := by rw [hS1]; exact oSame.rf.up rfl
  have W1 : wkA S1 e d ho q := by
    obtain ⟨w0, w1, w2, w3, w4, w5, w7⟩ := W
    rw [hS1]
    refine ⟨?_, ?_, ?_, ?_, ?_, ?_, ?_⟩ <;> rw [sU_n (by omega)] <;> assumption
  have h6 : S1 51 6 = we := by rw [hS1, sU_s]
  have hx1 := hx.on hT s1
  have h00 : S1 T 0 = nI (tn0 Z) := (hx1 0 0 (by omega) (by omega)).trans Zk.1.1
  unfold fX10_passHour fX10_passHour_b0
  dsimp only [lt]
  rw [← hS1, bnd_t (x_isGrotto h00 (by omega)), W1.2.2.2.2.1]
  clear hS1
  unfold hG
  have key : ∀ S2 s, oSame xWk S S2 → wkA S2 e d ho (s, q.2) → S2 51 6 = we → (0 ≤ s ∧ s ≤ 99) → s = sn1 Z e d we ho q → ∃ S', fX10_passHour_b61 N T S2 = some (iv (hFin Z e we ho (sn1 Z e d we ho q, q.2)).1, S') ∧ wkA S' e d (ho + 1) (hFin Z e we ho (sn1 Z e d we ho q, q.2)).2 ∧ oSame xWk S S' := by
    intro S2 s s2 W2 h6 hs es
    subst es
    obtain ⟨S', f1, f2, f3⟩ := x_ph61 (N := N) hT Zk (hx.on hT s2) (q := (sn1 Z e d we ho q, q.2)) ⟨hs, hq.2⟩ he h6 W2 hN
    exact ⟨S', f1, f2, s2.tr f3⟩
  rcases hq.2.2.2 with h | ⟨k, hk, h⟩
  · rw [h, inb_f1 (by decide)]
    exact key S1 q.1 s1 W1 h6 hq.1 (by unfold sn1; rw [if_pos h])
  · have hkk : qk q = k := by
      unfold qk
      rw [h, nI_clamp (by omega)]
    have hne : ¬ q.2.2.2 = -1 := by rw [h]; exact nI_nem (by omega)
    rw [h, inb_t hk (by omega)]
    show ∃ S', fX10_passHour_b16 N T S1 = _ ∧ _
    unfold fX10_passHour_b16
    obtain ⟨⟨x, xa, xb, xc⟩, -, -, h4⟩ := Zk.2.2.2.2.1 k hk
    rw [W1.2.2.2.2.1, h, W1.2.2.2.2.2.1, W1.2.2.2.2.2.2, h6, bnd_t (x_drips h00 z8 hk (by rw [hx1 1 k (by omega) (by omega)]; exact xc) xa xb), hx1 2 k (by omega) (by omega), hx1 1 k (by omega) (by omega)]
    show ∃ S', (if iv (drZ Z k ho we d) = 0 then _ else _) = _ ∧ _
    cases hd : drZ Z k ho we d with
    | false =>
      exact key S1 q.1 s1 W1 h6 hq.1 (by unfold sn1; rw [if_neg hne, hkk, hd]; rfl)
    | true =>
      show ∃ S', fX10_passHour_b39 N T S1 = _ ∧ _
      unfold fX10_passHour_b39
      obtain ⟨S2, f1, f2, f3, f4⟩ := x_pray2 (N := N) hT Zk hx1 hk h h6 (s := q.1) W1 hN
      rw [bnd_t f1]
      show ∃ S', chk (inb (S2 51 4) 8) (if S2 (T + 4) (S2 51 4).toNatClampNeg = 0 then _ else _) = _ ∧ _
      have hx2 := hx1.on hT f4
      rw [f2.2.2.2.2.1]
      show ∃ S', chk (inb q.2.2.2 8) (if S2 (T + 4) q.2.2.2.toNatClampNeg = 0 then _ else _) = _ ∧ _
      rw [h, chk_t (inb_t (by omega) (by decide)), nI_clamp (by omega), hx2 4 k (by omega) (by omega)]
      rcases h4 with h4 | h4
      · rw [if_pos h4]
        exact key S2 _ (s1.tr f4) f2 f3 (prZ_ok hq.1) (by unfold sn1 prD; rw [if_neg hne, hkk, hd, if_pos rfl, if_pos h4])
      · have h4' : ¬ Z 4 k = 0 := by rw [h4]; decide
        rw [if_neg h4']
        unfold fX10_passHour_b56
        obtain ⟨S3, g1, g2, g3, g4⟩ := x_pray2 (N := N) hT Zk hx2 hk h f3 f2 hN
        rw [bnd_t g1]
        exact key S3 _ ((s1.tr f4).tr g4) g2 g3 (prZ_ok (prZ_ok hq.1)) (by unfold sn1 prD; rw [if_neg hne, hkk, hd, if_pos rfl, if_neg h4'])
end
