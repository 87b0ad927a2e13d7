/-! part 44.axhour -/
section
/-! the class's HOUR of one GUILD -/
theorem env_eq {Y Z : gS} {k : Nat} {si pu we ho gr : Int32} (h1 : Y 1 k = Z 1 k) (h3 : Y 3 k = Z 3 k) : env Y k si pu we ho gr = env Z k si pu we ho gr := by
  unfold env
  rw [h1, h3]
theorem x_isTold {N k0 n : Nat} {S : gS} (hn : S k0 3 = nI n) (h7 : n ≤ 700) : fX4_isTold N k0 S = some (if n = 0 then 0 else 1, S) := by
  unfold fX4_isTold fX4_isTold_b0
  by_cases h0 : n = 0
  · subst h0
    rw [hn, if_pos (show nI 0 ≤ 0 by decide)]
    rfl
  · rw [hn, if_neg (nI_nle (by omega) (by omega)), if_neg h0]
    rfl
section
variable {N T k : Nat} {Z S : gS}
theorem x_pray (hT : T = 72 ∨ T = 4) (Zk : tOK Z) (hx : tXz T Z S) (hk : k < tn0 Z) (h4 : S 51 4 = nI k) (hN : 700 < N) : ∃ r, fX10_pray N T S = some (0, sU (sN S (T + 12) r) 51 1 (prZ Z k (S 51 1) (S 51 2) (S 51 6) (S 51 5) (S 51 0))) := by
  obtain ⟨⟨-, z0⟩, -, -, -, -, -, ⟨p1, p2, p3⟩, -⟩ := Zk
  have hp : S (T + 10) 3 = nI (tnp Z) := by rw [hx 10 3 (by omega) (by omega)]; exact p1
  have hc : S (T + 10 + 1) = Z 11 := funext fun j => hx 11 j (by omega) (by omega)
  unfold fX10_pray fX10_pray_b0
  rw [bnd_t (x_isTold hp p2)]
  by_cases h0 : tnp Z = 0
  · refine ⟨S (T + 12), ?_⟩
    rw [if_pos h0]
    show fX10_pray_b22 N S = _
    unfold fX10_pray_b22 fX10_pray_b23
    dsimp only [lt]
    rw [sN_self]
    unfold prZ prS
    rw [if_pos h0]
  · obtain ⟨r, hr⟩ := x_worth (N := N) (T := T) (k0 := T + 10) (k := k) (by omega) h4 (by omega) (by omega) (by omega) (by rcases hT with rfl | rfl <;> rfl) hp p2 h0 (by rw [hc]; exact p3) hN
    rw [hc, env_eq (Z := Z) (hx 1 k (by omega) (by omega)) (hx 3 k (by omega) (by omega))] at hr
    refine ⟨r, ?_⟩
    rw [if_neg h0]
    show fX10_pray_b10 N T S = _
    unfold fX10_pray_b10
    rw [bnd_t hr]
    show some (0, sU (sN S (T + 10 + 2) r) 51 1 (prS (rV (Z 11) (tnp Z) (env Z k (S 51 1) (S 51 2) (S 51 6) (S 51 5) (S 51 0))) (sN S (T + 10 + 2) r 51 1))) = _
    rw [sN_n (show 51 ≠ T + 10 + 2 by omega)]
    unfold prZ
    rw [if_neg h0]
theorem x_cost (hT : T = 72 ∨ T = 4) (Zk : tOK Z) (hx : tXz T Z S) (hk : k < tn0 Z) (h4 : S 51 4 = nI k) (hN : 700 < N) : ∃ r, fX10_cost N T S = some (coZ Z k (S 51 1) (S 51 2) (S 51 6) (S 51 5) (S 51 0), sN S (T + 15) r) := by
  obtain ⟨⟨z00, z0⟩, -, -, -, -, -, -, ⟨p1, p2, p3⟩⟩ := Zk
  have hp : S (T + 13) 3 = nI (tnc Z) := by rw [hx 13 3 (by omega) (by omega)]; exact p1
  have hc : S (T + 13 + 1) = Z 14 := funext fun j => hx 14 j (by omega) (by omega)
  have h00 : S T 0 = nI (tn0 Z) := (hx 0 0 (by omega) (by omega)).trans z00
  unfold fX10_cost fX10_cost_b0
  rw [h4, bnd_t (x_isGrotto h00 (by omega)), inb_t hk (by omega)]
  show ∃ r, fX10_cost_b13 N T S = _
  unfold fX10_cost_b13
  rw [bnd_t (x_isTold hp p2)]
  by_cases h0 : tnc Z = 0
  · refine ⟨S (T + 15), ?_⟩
    rw [if_pos h0]
    show fX10_cost_b35 N T S = _
    unfold fX10_cost_b35
    rw [h4, chk_t (inb_t (by omega) (by decide)), nI_clamp (by omega), hx 3 k (by omega) (by omega)]
    unfold fX10_cost_b44
    rw [sN_self]
    unfold coZ c50
    rw [if_pos h0]
  · obtain ⟨r, hr⟩ := x_worth (N := N) (T := T) (k0 := T + 13) (k := k) (by omega) h4 (by omega) (by omega) (by omega) (by rcases hT with rfl | rfl <;> rfl) hp p2 h0 (by rw [hc]; exact p3) hN
    rw [hc, env_eq (Z := Z) (hx 1 k (by omega) (by omega)) (hx 3 k (by omega) (by omega))] at hr
    refine ⟨r, ?_⟩
    rw [if_neg h0]
    show fX10_cost_b23 N T S = _
    unfold fX10_cost_b23
    rw [bnd_t hr]
    unfold fX10_cost_b44 coZ c50
    rw [if_neg h0]
theorem x_cost0 (Zk : tOK Z) (hx : tXz T Z S) (h4 : S 51 4 = -1) : fX10_cost N T S = some (0, S) := by
  obtain ⟨⟨z00, z0⟩, -⟩ := Zk
  have h00 : S T 0 = nI (tn0 Z) := (hx 0 0 (by omega) (by omega)).trans z00
  unfold fX10_cost fX10_cost_b0
  rw [h4, bnd_t (x_isGrotto h00 (by omega)), inb_f1 (by decide)]
  rfl
def wkA (S : gS) (e d ho : Int32) (q : qT) : Prop := S 51 0 = e ∧ S 51 1 = q.1 ∧ S 51 2 = q.2.1 ∧ S 51 3 = q.2.2.1 ∧ S 51 4 = q.2.2.2 ∧ S 51 5 = ho ∧ S 51 7 = d
noncomputable def xWk (i _j : Nat) : Bool := i == 51 || i == 16 || i == 19 || i == 84 || i == 87
theorem oSame.upN {P : Nat → Nat → Bool} {S S' : gS} {a : Nat} {r : Nat → Int32} (h : oSame P S S') (hs : ∀ j, P a j = true) : oSame P S (sN S' a r) := by
  intro i j k
  by_cases h2 : i = a
  · rw [h2, hs] at k
    cases k
  · rw [sN_n h2]
    exact h i j k
theorem tXz.on {S' : gS} (hT : T = 72 ∨ T = 4) (hx : tXz T Z S) (s : oSame xWk S S') : tXz T Z S' := by
  intro i j h1 h2
  rw [s (T + i) j ?_]
  · exact hx i j h1 h2
  · unfold xWk
    rcases hT with rfl | rfl
    · rcases (show i = 0 ∨ i = 1 ∨ i = 2 ∨ i = 3 ∨ i = 4 ∨ i = 5 ∨ i = 6 ∨ i = 7 ∨ i = 8 ∨ i = 9 ∨ i = 10 ∨ i = 11 ∨ i = 13 ∨ i = 14 by omega) with rfl | rfl | rfl | rfl | rfl | rfl | rfl | rfl | rfl | rfl | rfl | rfl | rfl | rfl <;> rfl
    · rcases (show i = 0 ∨ i = 1 ∨ i = 2 ∨ i = 3 ∨ i = 4 ∨ i = 5 ∨ i = 6 ∨ i = 7 ∨ i = 8 ∨ i = 9 ∨ i = 10 ∨ i = 11 ∨ i = 13 ∨ i = 14 by omega) with rfl | rfl | rfl | rfl | rfl | rfl | rfl | rfl | rfl | rfl | rfl | rfl | rfl | rfl <;> rfl
theorem x_ph132 (Zk : tOK Z) (hx : tXz T Z S) : fX10_passHour_b132 N T S = some (iv (decide (¬ S 51 1 ≤ bdZ Z)), if S 51 1 ≤ bdZ Z then sU S 51 5 (S 51 5 + 1) else sU (sU (sU S 51 2 (S 51 2 / 2)) 51 3 (sl1 (S 51 3))) 51 5 (S 51 5 + 1)) := by
  obtain ⟨-, -, -, ⟨z12, zb⟩, -⟩ := Zk
  have hb : S T 12 = nI (tnb Z) := (hx 0 12 (by omega) (by omega)).trans z12
  unfold fX10_passHour_b132
  rw [bnd_t (x_mostSin hb (by omega))]
  show (if S 51 1 ≤ bdZ Z then _ else _) = _
  by_cases h : S 51 1 ≤ bdZ Z
  · rw [if_pos h, if_pos h, decide_eq_false (fun q => q h)]
    rfl
  · rw [if_neg h, if_neg h, decide_eq_true h]
    show fX10_passHour_b155 N 1 S = _
    unfold fX10_passHour_b155
    dsimp only [lt]
    rw [sU_n (i := 51) (j := 3) (by omega)]
    show fX10_passHour_b181 N 1 (sU (sU S 51 2 (S 51 2 / 2)) 51 3 (sl1 (S 51 3))) = _
    unfold fX10_passHour_b181
    dsimp only [lt]
    rw [sU_n (i := 51) (j := 5) (by omega), sU_n (i := 51) (j := 5) (by omega)]
    rfl
end
section
variable {N T : Nat} {Z S : gS} {e d ho we : Int32} {q : qT}
/-- behind the paying -/
theorem x_phEnd {S3 : gS} (hT : T = 72 ∨ T = 4) (Zk : tOK Z) (hx : tXz T Z S) (s : oSame xWk S S3) (w0 : S3 51 0 = e) (w1 : S3 51 1 = fS e q) (w2 : S3 51 2 = (fH Z e we ho q).1) (w3 : S3 51 3 = q.2.2.1) (w4 : S3 51 4 = (fH Z e we ho q).2) (w5 : S3 51 5 = ho) (w7 : S3 51 7 = d) : ∃ S', fX10_passHour_b132 N T S3 = some (iv (hFin Z e we ho q).1, S') ∧ wkA S' e d (ho + 1) (hFin Z e we ho q).2 ∧ oSame xWk S S' := by
  refine ⟨(if fS e q ≤ bdZ Z then sU S3 51 5 (ho + 1) else sU (sU (sU S3 51 2 ((fH Z e we ho q).1 / 2)) 51 3 (sl1 q.2.2.1)) 51 5 (ho + 1)), ?_, ?_⟩
  · rw [x_ph132 Zk (hx.on hT s), w1, w2, w3, w5]
    rfl
  · unfold hFin fB
    by_cases h : fS e q ≤ bdZ Z
    · rw [if_pos h, decide_eq_false (fun q => q h)]
      refine ⟨⟨?_, ?_, ?_, ?_, ?_, ?_, ?_⟩, s.up rfl⟩
      · rw [sU_n (by omega)]; exact w0
      · rw [sU_n (by omega)]; exact w1
      · rw [sU_n (by omega)]; exact w2
      · rw [sU_n (by omega)]; exact w3
      · rw [sU_n (by omega)]; exact w4
      · rw [sU_s]
      · rw [sU_n (by omega)]; exact w7
    · rw [if_neg h, decide_eq_true h]
      refine ⟨⟨?_, ?_, ?_, ?_, ?_, ?_, ?_⟩, ((s.up rfl).up rfl).up rfl⟩
      · rw [sU_n (by omega), sU_n (by omega), sU_n (by omega)]; exact w0
      · rw [sU_n (by omega), sU_n (by omega), sU_n (by omega)]; exact w1
      · rw [sU_n (by omega), sU_n (by omega), sU_s]; rfl
      · rw [sU_n (by omega), sU_s]; rfl
      · rw [sU_n (by omega), sU_n (by omega), sU_n (by omega)]; exact w4
      · rw [sU_s]
      · rw [sU_n (by omega), sU_n (by omega), sU_n (by omega)]; exact w7
theorem x_ph61 (hT : T = 72 ∨ T = 4) (Zk : tOK Z) (hx : tXz T Z S) (hq : qOK (tn0 Z) q) (he : ∃ x : Nat, x ≤ 9 ∧ e = nI x) (h6 : S 51 6 = we) (W : wkA S e d ho q) (hN : 700 < N) : ∃ S', fX10_passHour_b61 N T S = some (iv (hFin Z e we ho q).1, S') ∧ wkA S' e d (ho + 1) (hFin Z e we ho q).2 ∧ oSame xWk S S' := by
  obtain ⟨w0, w1, w2, w3, w4, w5, w7⟩ := W
  have l0 : ∀ x, sU S 51 2 x 51 0 = e := fun x => by rw [sU_n (by omega)]; exact w0
  have l1 : ∀ x, sU S 51 2 x 51 1 = q.1 := fun x => by rw [sU_n (by omega)]; exact w1
  obtain ⟨S2, hS2⟩ : ∃ z, z = sU (sU S 51 2 (fP e q)) 51 1 (fS e q) := ⟨_, rfl⟩
  have hb : fX10_passHour_b61 N T S = bnd (fX10_cost N T S2) (fun q1 => if (q1.2 51 2) < q1.1 then fX10_passHour_b127 N T q1.2 else fX10_passHour_b114 N T q1.1 q1.2) := by
    unfold fX10_passHour_b61
    dsimp only [lt]
    rw [w0, w2, l1, l0, hS2]
    rfl
  have s2 : oSame xWk S S2 := by rw [hS2]; exact (oSame.rf.up rfl).up rfl
  have v0 : S2 51 0 = e := by rw [hS2, sU_n (by omega), sU_n (by omega)]; exact w0
  have v1 : S2 51 1 = fS e q := by rw [hS2, sU_s]
  have v2 : S2 51 2 = fP e q := by rw [hS2, sU_n (by omega), sU_s]
  have v3 : S2 51 3 = q.2.2.1 := by rw [hS2, sU_n (by omega), sU_n (by omega)]; exact w3
  have v4 : S2 51 4 = q.2.2.2 := by rw [hS2, sU_n (by omega), sU_n (by omega)]; exact w4
  have v5 : S2 51 5 = ho := by rw [hS2, sU_n (by omega), sU_n (by omega)]; exact w5
  have v6 : S2 51 6 = we := by rw [hS2, sU_n (by omega), sU_n (by omega)]; exact h6
  have v7 : S2 51 7 = d := by rw [hS2, sU_n (by omega), sU_n (by omega)]; exact w7
  rw [hb]
  clear hb hS2
  have hP : ¬ fP e q < 0 := by
    obtain ⟨x, hx, rfl⟩ := he
    obtain ⟨b, hb, eb⟩ := i32_999 hq.2.1
    unfold fP
    rw [eb, hp1_n hx hb]
    exact nI_pos (by omega)
  rcases hq.2.2.2 with h | ⟨k, hk, h⟩
  · rw [bnd_t (x_cost0 Zk (hx.on hT s2) (by rw [v4]; exact h))]
    show ∃ S', (if S2 51 2 < 0 then _ else _) = _ ∧ _
    rw [v2, if_neg hP]
    unfold fX10_passHour_b114
    dsimp only [lt]
    rw [v2, Int32.sub_zero]
    have f : fH Z e we ho q = (fP e q, -1) := by unfold fH; rw [if_pos h]
    refine x_phEnd hT Zk hx (s2.up rfl) ?_ ?_ ?_ ?_ ?_ ?_ ?_
    · rw [sU_n (by omega)]; exact v0
    · rw [sU_n (by omega)]; exact v1
    · rw [sU_s, f]
    · rw [sU_n (by omega)]; exact v3
    · rw [sU_n (by omega), f, v4]; exact h
    · rw [sU_n (by omega)]; exact v5
    · rw [sU_n (by omega)]; exact v7
  · obtain ⟨r, hr⟩ := x_cost hT Zk (hx.on hT s2) hk (by rw [v4]; exact h) hN
    have n51 : 51 ≠ T + 15 := by omega
    have s3 : oSame xWk S (sN S2 (T + 15) r) := s2.upN (fun j => by rcases hT with rfl | rfl <;> rfl)
    have hne : ¬ q.2.2.2 = -1 := by
      rw [h]
      intro q9
      have := nI_pos (n := k) (by have := Zk.1.2; omega)
      rw [q9] at this
      exact this (by decide)
    have hkk : qk q = k := by
      unfold qk
      rw [h, nI_clamp (by have := Zk.1.2; omega)]
    have hC : coZ Z k (S2 51 1) (S2 51 2) (S2 51 6) (S2 51 5) (S2 51 0) = fC Z e we ho q := by
      unfold fC
      rw [hkk, v0, v1, v2, v5, v6]
    rw [hC] at hr
    rw [bnd_t hr]
    show ∃ S', (if sN S2 (T + 15) r 51 2 < fC Z e we ho q then _ else _) = _ ∧ _
    rw [sN_n n51, v2]
    by_cases hl : fP e q < fC Z e we ho q
    · rw [if_pos hl]
      unfold fX10_passHour_b127
      dsimp only [lt]
      have f : fH Z e we ho q = (fP e q, -1) := by unfold fH; rw [if_neg hne, if_pos hl]
      refine x_phEnd hT Zk hx (s3.up rfl) ?_ ?_ ?_ ?_ ?_ ?_ ?_
      · rw [sU_n (by omega), sN_n n51]; exact v0
      · rw [sU_n (by omega), sN_n n51]; exact v1
      · rw [sU_n (by omega), sN_n n51, f]; exact v2
      · rw [sU_n (by omega), sN_n n51]; exact v3
      · rw [sU_s, f]
      · rw [sU_n (by omega), sN_n n51]; exact v5
      · rw [sU_n (by omega), sN_n n51]; exact v7
    · rw [if_neg hl]
      unfold fX10_passHour_b114
      dsimp only [lt]
      rw [sN_n n51, v2]
      have f : fH Z e we ho q = (fP e q - fC Z e we ho q, q.2.2.2) := by unfold fH; rw [if_neg hne, if_neg hl]
      refine x_phEnd hT Zk hx (s3.up rfl) ?_ ?_ ?_ ?_ ?_ ?_ ?_
      · rw [sU_n (by omega), sN_n n51]; exact v0
      · rw [sU_n (by omega), sN_n n51]; exact v1
      · rw [sU_s, f]
      · rw [sU_n (by omega), sN_n n51]; exact v3
      · rw [sU_n (by omega), sN_n n51, f]; exact v4
      · rw [sU_n (by omega), sN_n n51]; exact v5
      · rw [sU_n (by omega), sN_n n51]; exact v7
theorem x_pray2 {k : Nat} {s : Int32} (hT : T = 72 ∨ T = 4) (Zk : tOK Z) (hx : tXz T Z S) (hk : k < tn0 Z) (h4 : q.2.2.2 = nI k) (h6 : S 51 6 = we) (W : wkA S e d ho (s, q.2)) (hN : 700 < N) : ∃ S', fX10_pray N T S = some (0, S') ∧ wkA S' e d ho (prZ Z k s q.2.1 we ho e, q.2) ∧ S' 51 6 = we ∧ oSame xWk S S' := by
  obtain ⟨w0, w1, w2, w3, w4, w5, w7⟩ := W
  obtain ⟨r, hr⟩ := x_pray hT Zk hx hk (w4.trans h4) hN
  have n51 : 51 ≠ T + 12 := by omega
  refine ⟨_, hr, ⟨?_, ?_, ?_, ?_, ?_, ?_, ?_⟩, ?_, (oSame.rf.upN (fun j => by rcases hT with rfl | rfl <;> rfl)).up rfl⟩
  · rw [sU_n (by omega), sN_n n51]; exact w0
  · rw [sU_s, w0, w1, w2, w5, h6]
  · rw [sU_n (by omega), sN_n n51]; exact w2
  · rw [sU_n (by omega), sN_n n51]; exact w3
  · rw [sU_n (by omega), sN_n n51]; exact w4
  · rw [sU_n (by omega), sN_n n51]; exact w5
  · rw [sU_n (by omega), sN_n n51]; exact w7
  · rw [sU_n (by omega), sN_n n51]; exact h6
theorem nI_nem {k : Nat} (h : k < 2 ^ 31) : ¬ nI k = -1 := fun q => by
  have := nI_pos h
  rw [q] at this
  exact this (by decide)
theorem x_passHour (hT : T = 72 ∨ T = 4) (Zk : tOK Z) (hx : tXz T Z S) (hq : qOK (tn0 Z) q) (he : ∃ x : Nat, x ≤ 9 ∧ e = nI x) (W : wkA S e d ho q) (hN : 700 < N) : ∃ S', fX10_passHour N T we S = some (iv (hG Z e d we ho q).1, S') ∧ wkA S' e d (ho + 1) (hG Z e d we ho q).2 ∧ oSame xWk S S' := by
  have z8 := Zk.1.2
  obtain ⟨S1, hS1⟩ : ∃ z, z = sU S 51 6 we := ⟨_, rfl⟩
  have s1 : oSame xWk S S1 := by rw [hS1]; exact oSame.rf.up rfl
  have W1 : wkA S1 e d ho q := by
    obtain ⟨w0, w1, w2, w3, w4, w5, w7⟩ := W
    rw [hS1]
    refine ⟨?_, ?_, ?_, ?_, ?_, ?_, ?_⟩ <;> rw [sU_n (by omega)] <;> assumption
  have h6 : S1 51 6 = we := by rw [hS1, sU_s]
  have hx1 := hx.on hT s1
  have h00 : S1 T 0 = nI (tn0 Z) := (hx1 0 0 (by omega) (by omega)).trans Zk.1.1
  unfold fX10_passHour fX10_passHour_b0
  dsimp only [lt]
  rw [← hS1, bnd_t (x_isGrotto h00 (by omega)), W1.2.2.2.2.1]
  clear hS1
  unfold hG
  have key : ∀ S2 s, oSame xWk S S2 → wkA S2 e d ho (s, q.2) → S2 51 6 = we → (0 ≤ s ∧ s ≤ 99) → s = sn1 Z e d we ho q → ∃ S', fX10_passHour_b61 N T S2 = some (iv (hFin Z e we ho (sn1 Z e d we ho q, q.2)).1, S') ∧ wkA S' e d (ho + 1) (hFin Z e we ho (sn1 Z e d we ho q, q.2)).2 ∧ oSame xWk S S' := by
    intro S2 s s2 W2 h6 hs es
    subst es
    obtain ⟨S', f1, f2, f3⟩ := x_ph61 (N := N) hT Zk (hx.on hT s2) (q := (sn1 Z e d we ho q, q.2)) ⟨hs, hq.2⟩ he h6 W2 hN
    exact ⟨S', f1, f2, s2.tr f3⟩
  rcases hq.2.2.2 with h | ⟨k, hk, h⟩
  · rw [h, inb_f1 (by decide)]
    exact key S1 q.1 s1 W1 h6 hq.1 (by unfold sn1; rw [if_pos h])
  · have hkk : qk q = k := by
      unfold qk
      rw [h, nI_clamp (by omega)]
    have hne : ¬ q.2.2.2 = -1 := by rw [h]; exact nI_nem (by omega)
    rw [h, inb_t hk (by omega)]
    show ∃ S', fX10_passHour_b16 N T S1 = _ ∧ _
    unfold fX10_passHour_b16
    obtain ⟨⟨x, xa, xb, xc⟩, -, -, h4⟩ := Zk.2.2.2.2.1 k hk
    rw [W1.2.2.2.2.1, h, W1.2.2.2.2.2.1, W1.2.2.2.2.2.2, h6, bnd_t (x_drips h00 z8 hk (by rw [hx1 1 k (by omega) (by omega)]; exact xc) xa xb), hx1 2 k (by omega) (by omega), hx1 1 k (by omega) (by omega)]
    show ∃ S', (if iv (drZ Z k ho we d) = 0 then _ else _) = _ ∧ _
    cases hd : drZ Z k ho we d with
    | false =>
      exact key S1 q.1 s1 W1 h6 hq.1 (by unfold sn1; rw [if_neg hne, hkk, hd]; rfl)
    | true =>
      show ∃ S', fX10_passHour_b39 N T S1 = _ ∧ _
      unfold fX10_passHour_b39
      obtain ⟨S2, f1, f2, f3, f4⟩ := x_pray2 (N := N) hT Zk hx1 hk h h6 (s := q.1) W1 hN
      rw [bnd_t f1]
      show ∃ S', chk (inb (S2 51 4) 8) (if S2 (T + 4) (S2 51 4).toNatClampNeg = 0 then _ else _) = _ ∧ _
      have hx2 := hx1.on hT f4
      rw [f2.2.2.2.2.1]
      show ∃ S', chk (inb q.2.2.2 8) (if S2 (T + 4) q.2.2.2.toNatClampNeg = 0 then _ else _) = _ ∧ _
      rw [h, chk_t (inb_t (by omega) (by decide)), nI_clamp (by omega), hx2 4 k (by omega) (by omega)]
      rcases h4 with h4 | h4
      · rw [if_pos h4]
        exact key S2 _ (s1.tr f4) f2 f3 (prZ_ok hq.1) (by unfold sn1 prD; rw [if_neg hne, hkk, hd, if_pos rfl, if_pos h4])
      · have h4' : ¬ Z 4 k = 0 := by rw [h4]; decide
        rw [if_neg h4']
        unfold fX10_passHour_b56
        obtain ⟨S3, g1, g2, g3, g4⟩ := x_pray2 (N := N) hT Zk hx2 hk h f3 f2 hN
        rw [bnd_t g1]
        exact key S3 _ ((s1.tr f4).tr g4) g2 g3 (prZ_ok (prZ_ok hq.1)) (by unfold sn1 prD; rw [if_neg hne, hkk, hd, if_pos rfl, if_neg h4'])
end
end

/-! part 45.amhour -/
section
/-! the reference's HOUR -/
noncomputable def mRu (i _j : Nat) : Bool := i == 42 || i == 43
def hOK (n0 : Nat) (q : qT) : Prop := q.2.2.2 = -1 ∨ ∃ k : Nat, k < n0 ∧ q.2.2.2 = nI k
def mW (Z S : gS) (we : Int32) (h : Nat) : Prop := (S 99 41 = we ∧ ¬ we = -1) ∨ (S 99 41 = -1 ∧ we = wetZ Z h)
theorem m_wetW {N h : Nat} {Z S : gS} {we : Int32} (Zk : tOK Z) (hM : tM Z S) (hh : S 99 37 = nI h) (hb : h < 2 ^ 31) (hw : mW Z S we h) : fX12_wetOf N S = some (we, S) := by
  rcases hw with ⟨h1, h2⟩ | ⟨h1, h2⟩
  · rw [m_wetOf2 (by rw [h1]; exact h2), h1]
  · rw [m_wetOf hM.2.2.2.1 Zk.2.2.1.2.1 hb hh h1, h2]
    unfold wetZ
    rw [wetS_eq (r := S 14) (r' := Z 9) (fun i hi => hM.2.2.2.2.2.2.1 i hi)]
theorem mRu_f {i j : Nat} (h : i ≠ 42) (h' : i ≠ 43) : mRu i j = false := by
  unfold mRu
  rw [beq_false_of_ne h, beq_false_of_ne h']
  rfl
section
variable {N g k h : Nat} {Z S : gS} {we : Int32}
theorem m_ruleOf {nd n : Nat} {c : Nat → Int32} (Zk : tOK Z) (hM : tM Z S) (hg : g < 6) (hk : k < tn0 Z) (h35 : S 35 g = nI k) (hh : S 99 37 = nI h) (hb : h < 2 ^ 31) (hw : mW Z S we h) (hnd : nd = 15 ∨ nd = 16) (h7 : n ≤ 700) (h0 : n ≠ 0) (ok : rOK c n) (hc : ∀ i, i < n → S nd i = sgn (c i)) (hN : 700 < N) : ∃ S', fX12_ruleOf N nd (nI n) (nI g) S = some (rV c n (env Z k (S 32 g) (S 33 g) we (S 99 37) (S 18 g)), S') ∧ oSame mRu S S' := by
  have z8 := Zk.1.2
  have hgc : (nI g).toNatClampNeg = g := nI_clamp (by omega)
  have hkc : (nI k).toNatClampNeg = k := nI_clamp (by omega)
  have hin : inb (nI g) 6 = true := inb_t hg (by decide)
  have hik : inb (nI k) 16 = true := inb_t (by omega) (by decide)
  obtain ⟨S1, e1⟩ : ∃ z, z = sU S 42 0 (S 32 g) := ⟨_, rfl⟩
  have s1 : ∀ i j, i ≠ 42 → S1 i j = S i j := fun i j hi => by rw [e1, sU_n (by omega)]
  obtain ⟨S2, e2⟩ : ∃ z, z = sU S1 42 1 (S 33 g) := ⟨_, rfl⟩
  have s2 : ∀ i j, i ≠ 42 → S2 i j = S i j := fun i j hi => by rw [e2, sU_n (by omega), s1 i j hi]
  obtain ⟨S3, e3⟩ : ∃ z, z = sU S2 42 2 (S 7 k) := ⟨_, rfl⟩
  have s3 : ∀ i j, i ≠ 42 → S3 i j = S i j := fun i j hi => by rw [e3, sU_n (by omega), s2 i j hi]
  obtain ⟨S4, e4⟩ : ∃ z, z = sU S3 42 3 (S 9 k) := ⟨_, rfl⟩
  have s4 : ∀ i j, i ≠ 42 → S4 i j = S i j := fun i j hi => by rw [e4, sU_n (by omega), s3 i j hi]
  obtain ⟨S6, e6⟩ : ∃ z, z = sU S4 42 4 we := ⟨_, rfl⟩
  have s6 : ∀ i j, i ≠ 42 → S6 i j = S i j := fun i j hi => by rw [e6, sU_n (by omega), s4 i j hi]
  obtain ⟨S7, e7⟩ : ∃ z, z = sU S6 42 5 (S 99 37) := ⟨_, rfl⟩
  have s7 : ∀ i j, i ≠ 42 → S7 i j = S i j := fun i j hi => by rw [e7, sU_n (by omega), s6 i j hi]
  obtain ⟨S8, e8⟩ : ∃ z, z = sU S7 42 6 (S 18 g) := ⟨_, rfl⟩
  have s8 : ∀ i j, i ≠ 42 → S8 i j = S i j := fun i j hi => by rw [e8, sU_n (by omega), s7 i j hi]
  have hW4 : fX12_wetOf N S4 = some (we, S4) := m_wetW Zk (hM.on (fun i j h1 h2 => s4 i j (by omega))) (by rw [s4 99 37 (by omega)]; exact hh) hb (by
    unfold mW
    rw [s4 99 41 (by omega)]
    exact hw)
  obtain ⟨r, hr⟩ := m_valueNow (N := N) (S := S8) (nd := nd) (by omega) (by rcases hnd with rfl | rfl <;> rfl) h7 h0 ok (fun i hi => by rw [s8 nd i (by omega)]; exact hc i hi) hN
  refine ⟨sN S8 43 r, ?_, ?_⟩
  · unfold fX12_ruleOf fX12_ruleOf_b0
    dsimp only [lt]
    rw [hgc, chk_t hin, ← e1, chk_t hin, s1 33 g (by omega), ← e2, chk_t hin, s2 35 g (by omega), h35, hkc, chk_t hik, s2 7 k (by omega), ← e3, chk_t hin, s3 35 g (by omega), h35, hkc, chk_t hik, s3 9 k (by omega), ← e4, bnd_t hW4]
    dsimp only
    rw [← e6, s6 99 37 (by omega), ← e7, chk_t hin, s7 18 g (by omega), ← e8, bnd_t hr]
    dsimp only
    refine congrArg (fun z => some (z, sN S8 43 r)) (rV_env2 ok (fun i hi => ?_))
    have a6 : S8 42 6 = S 18 g := by rw [e8, sU_s]
    have a5 : S8 42 5 = S 99 37 := by rw [e8, sU_n (by omega), e7, sU_s]
    have a4 : S8 42 4 = we := by rw [e8, sU_n (by omega), e7, sU_n (by omega), e6, sU_s]
    have a3 : S8 42 3 = S 9 k := by rw [e8, sU_n (by omega), e7, sU_n (by omega), e6, sU_n (by omega), e4, sU_s]
    have a2 : S8 42 2 = S 7 k := by rw [e8, sU_n (by omega), e7, sU_n (by omega), e6, sU_n (by omega), e4, sU_n (by omega), e3, sU_s]
    have a1 : S8 42 1 = S 33 g := by rw [e8, sU_n (by omega), e7, sU_n (by omega), e6, sU_n (by omega), e4, sU_n (by omega), e3, sU_n (by omega), e2, sU_s]
    have a0 : S8 42 0 = S 32 g := by rw [e8, sU_n (by omega), e7, sU_n (by omega), e6, sU_n (by omega), e4, sU_n (by omega), e3, sU_n (by omega), e2, sU_n (by omega), e1, sU_s]
    obtain ⟨m1, m2, m3, m4⟩ := hM.2.2.2.2.2.2.2.1 k hk
    rcases (show i = 0 ∨ i = 1 ∨ i = 2 ∨ i = 3 ∨ i = 4 ∨ i = 5 ∨ i = 6 by omega) with rfl | rfl | rfl | rfl | rfl | rfl | rfl
    · exact a0
    · exact a1
    · exact a2.trans m1
    · exact a3.trans m3
    · exact a4
    · exact a5
    · exact a6
  · intro i j hij
    have h2 : i ≠ 42 := fun q => by rw [q] at hij; cases hij
    have h3 : i ≠ 43 := fun q => by rw [q] at hij; cases hij
    rw [sN_n h3, s8 i j h2]
theorem m_pray (Zk : tOK Z) (hM : tM Z S) (hg : g < 6) (hk : k < tn0 Z) (h35 : S 35 g = nI k) (hh : S 99 37 = nI h) (hb : h < 2 ^ 31) (hw : mW Z S we h) (hN : 700 < N) : ∃ S', fX12_pray N (nI g) S = some (0, sU S' 32 g (prZ Z k (S 32 g) (S 33 g) we (S 99 37) (S 18 g))) ∧ oSame mRu S S' := by
  have hgc : (nI g).toNatClampNeg = g := nI_clamp (by omega)
  have hin : inb (nI g) 6 = true := inb_t hg (by decide)
  obtain ⟨-, -, -, -, -, -, ⟨p1, p2, p3⟩, -⟩ := id Zk
  have h54 := hM.2.2.2.2.1
  unfold fX12_pray fX12_pray_b0
  rw [h54]
  have key : ∀ v S', oSame mRu S S' → fX12_pray_b28 N (nI g) v S' = some (0, sU S' 32 g (prS v (S 32 g))) := by
    intro v S' s
    unfold fX12_pray_b28
    rw [chk_t hin, chk_t hin, chk_t hin, hgc, s 32 g rfl]
    rfl
  by_cases h0 : tnp Z = 0
  · refine ⟨S, ?_, oSame.rf⟩
    rw [h0, if_pos (show nI 0 = 0 from rfl)]
    unfold fX12_pray_b9 prZ
    rw [key 5 S oSame.rf, if_pos h0]
  · obtain ⟨S', r1, r2⟩ := m_ruleOf (N := N) (nd := 15) (n := tnp Z) (c := Z 11) Zk hM hg hk h35 hh hb hw (Or.inl rfl) p2 h0 p3 hM.2.2.2.2.2.2.2.2.1 hN
    refine ⟨S', ?_, r2⟩
    rw [if_neg (nI_ne0 (by omega) (by omega))]
    unfold fX12_pray_b13 prZ
    rw [h54, bnd_t r1, key _ S' r2, if_neg h0]
theorem m_costsOf (Zk : tOK Z) (hM : tM Z S) (hg : g < 6) (hk : k < tn0 Z) (h35 : S 35 g = nI k) (hh : S 99 37 = nI h) (hb : h < 2 ^ 31) (hw : mW Z S we h) (hN : 700 < N) : ∃ S', fX12_costsOf N (nI g) S = some (coZ Z k (S 32 g) (S 33 g) we (S 99 37) (S 18 g), S') ∧ oSame mRu S S' := by
  have z8 := Zk.1.2
  have hgc : (nI g).toNatClampNeg = g := nI_clamp (by omega)
  have hin : inb (nI g) 6 = true := inb_t hg (by decide)
  obtain ⟨-, -, -, -, -, -, -, ⟨p1, p2, p3⟩⟩ := id Zk
  have h55 := hM.2.2.2.2.2.1
  unfold fX12_costsOf fX12_costsOf_b0
  rw [h55]
  by_cases h0 : tnc Z = 0
  · refine ⟨S, ?_, oSame.rf⟩
    rw [h0, if_pos (show nI 0 = 0 from rfl)]
    unfold fX12_costsOf_b9 coZ
    rw [chk_t hin, hgc, h35, chk_t (inb_t (by omega) (by decide)), nI_clamp (by omega), (hM.2.2.2.2.2.2.2.1 k hk).2.2.1, if_pos h0]
    rfl
  · obtain ⟨S', r1, r2⟩ := m_ruleOf (N := N) (nd := 16) (n := tnc Z) (c := Z 14) Zk hM hg hk h35 hh hb hw (Or.inr rfl) p2 h0 p3 hM.2.2.2.2.2.2.2.2.2 hN
    refine ⟨S', ?_, r2⟩
    rw [if_neg (nI_ne0 (by omega) (by omega))]
    unfold fX12_costsOf_b23 coZ
    rw [h55, bnd_t r1, if_neg h0]
    rfl
theorem m_158 {S3 : gS} {r : Int32 → gS → Option (Int32 × gS)} (hM2 : S3 5 2 = bdZ Z) (hg : g < 6) : fX12_anHour_b158 N r (nI g) S3 = r (nI (g + 1)) (if S3 32 g ≤ bdZ Z then S3 else sU (sU (sU S3 33 g (S3 33 g / 2)) 34 g (sl1 (S3 34 g))) 99 45 (S3 99 45 ||| ((1 : Int32) <<< (nI g &&& 31)))) := by
  have hgc : (nI g).toNatClampNeg = g := nI_clamp (by omega)
  have hin : inb (nI g) 6 = true := inb_t hg (by decide)
  unfold fX12_anHour_b158
  rw [chk_t hin, hgc, hM2]
  by_cases h : S3 32 g ≤ bdZ Z
  · rw [if_neg (Int32.not_lt.mpr h), if_pos h]
    unfold fX12_anHour_b173 fX12_anHour_b218
    rw [nI_1]
  · rw [if_pos (Int32.not_le.mp h), if_neg h]
    unfold fX12_anHour_b176
    dsimp only [lt]
    rw [hgc, chk_t hin, chk_t hin, chk_t hin, chk_t hin, sU_n (i := 34) (by omega), sU_n (i := 99) (by omega), sU_n (i := 99) (by omega)]
    unfold fX12_anHour_b218
    rw [nI_1]
    rfl
/-- one GUILD of the second loop -/
theorem m_92 {q : qT} {e : Int32} {r : Int32 → gS → Option (Int32 × gS)} (Zk : tOK Z) (hM : tM Z S) (hg : g < 6) (hq : hOK (tn0 Z) q) (h18 : S 18 g = e) (hh : S 99 37 = nI h) (hb : h < 2 ^ 31) (hw : mW Z S we h) (r1 : S 32 g = q.1) (r2 : S 33 g = q.2.1) (r3 : S 34 g = q.2.2.1) (r4 : S 35 g = q.2.2.2) (hN : 700 < N) :
    ∃ S', fX12_anHour_b92 N r (nI g) S = r (nI (g + 1)) S' ∧ S' 32 g = (hFin Z e we (nI h) q).2.1 ∧ S' 33 g = (hFin Z e we (nI h) q).2.2.1 ∧ S' 34 g = (hFin Z e we (nI h) q).2.2.2.1 ∧ S' 35 g = (hFin Z e we (nI h) q).2.2.2.2 ∧ S' 99 45 = (if (hFin Z e we (nI h) q).1 = true then S 99 45 ||| ((1 : Int32) <<< (nI g &&& 31)) else S 99 45) ∧ (∀ i j, i ≠ 42 → i ≠ 43 → ¬ (32 ≤ i ∧ i ≤ 35 ∧ j = g) → ¬ (i = 99 ∧ j = 45) → S' i j = S i j) := by
  have z8 := Zk.1.2
  have hgc : (nI g).toNatClampNeg = g := nI_clamp (by omega)
  have hin : inb (nI g) 6 = true := inb_t hg (by decide)
  obtain ⟨S2, e2⟩ : ∃ z, z = sU (sU S 33 g (fP e q)) 32 g (fS e q) := ⟨_, rfl⟩
  have s2 : ∀ i j, ¬ (i = 32 ∧ j = g) → ¬ (i = 33 ∧ j = g) → S2 i j = S i j := fun i j h1 h2 => by rw [e2, sU_n h1, sU_n h2]
  have v1 : S2 32 g = fS e q := by rw [e2, sU_s]
  have v2 : S2 33 g = fP e q := by rw [e2, sU_n (by omega), sU_s]
  have hb9 : fX12_anHour_b92 N r (nI g) S = if q.2.2.2 = -1 then fX12_anHour_b158 N r (nI g) S2 else fX12_anHour_b153 N r (nI g) S2 := by
    unfold fX12_anHour_b92
    dsimp only [lt]
    rw [hgc, chk_t hin, chk_t hin, chk_t hin, chk_t hin, chk_t hin, chk_t hin, chk_t hin, h18, r2, sU_n (i := 32) (by omega), sU_n (i := 18) (by omega), r1, h18]
    show (if sU (sU S 33 g (fP e q)) 32 g (fS e q) 35 g = -1 then fX12_anHour_b158 N r (nI g) (sU (sU S 33 g (fP e q)) 32 g (fS e q)) else fX12_anHour_b153 N r (nI g) (sU (sU S 33 g (fP e q)) 32 g (fS e q))) = _
    rw [← e2, s2 35 g (by omega) (by omega), r4]
  rw [hb9]
  clear hb9 e2
  have hM2 : tM Z S2 := hM.on (fun i j h1 h2 => s2 i j (by omega) (by omega))
  -- the end, from what the paying left
  have fin : ∀ S3, S3 5 2 = bdZ Z → S3 32 g = fS e q → S3 33 g = (fH Z e we (nI h) q).1 → S3 34 g = q.2.2.1 → S3 35 g = (fH Z e we (nI h) q).2 → (∀ i j, i ≠ 42 → i ≠ 43 → ¬ (32 ≤ i ∧ i ≤ 35 ∧ j = g) → S3 i j = S i j) →
      ∃ S', fX12_anHour_b158 N r (nI g) S3 = r (nI (g + 1)) S' ∧ S' 32 g = (hFin Z e we (nI h) q).2.1 ∧ S' 33 g = (hFin Z e we (nI h) q).2.2.1 ∧ S' 34 g = (hFin Z e we (nI h) q).2.2.2.1 ∧ S' 35 g = (hFin Z e we (nI h) q).2.2.2.2 ∧ S' 99 45 = (if (hFin Z e we (nI h) q).1 = true then S 99 45 ||| ((1 : Int32) <<< (nI g &&& 31)) else S 99 45) ∧ (∀ i j, i ≠ 42 → i ≠ 43 → ¬ (32 ≤ i ∧ i ≤ 35 ∧ j = g) → ¬ (i = 99 ∧ j = 45) → S' i j = S i j) := by
    intro S3 a5 a1 a2 a3 a4 as
    refine ⟨_, m_158 a5 hg, ?_⟩
    rw [a1, a2, a3, as 99 45 (by omega) (by omega) (by omega)]
    unfold hFin fB
    by_cases hs : fS e q ≤ bdZ Z
    · rw [if_pos hs, decide_eq_false (fun q => q hs)]
      exact ⟨a1, a2, a3, a4, as 99 45 (by omega) (by omega) (by omega), fun i j h1 h2 h3 _ => as i j h1 h2 h3⟩
    · rw [if_neg hs, decide_eq_true hs]
      refine ⟨?_, ?_, ?_, ?_, ?_, fun i j h1 h2 h3 h4 => ?_⟩
      · rw [sU_n (by omega), sU_n (by omega), sU_n (by omega)]; exact a1
      · rw [sU_n (by omega), sU_n (by omega), sU_s]; rfl
      · rw [sU_n (by omega), sU_s]; rfl
      · rw [sU_n (by omega), sU_n (by omega), sU_n (by omega)]; exact a4
      · rw [sU_s]; rfl
      · rw [sU_n (by omega), sU_n (by omega), sU_n (by omega)]; exact as i j h1 h2 h3
  rcases hq with h9 | ⟨k, hk, h9⟩
  · rw [if_pos h9]
    have f : fH Z e we (nI h) q = (fP e q, -1) := by unfold fH; rw [if_pos h9]
    exact fin S2 hM2.2.2.1 v1 (by rw [f]; exact v2) (by rw [s2 34 g (by omega) (by omega)]; exact r3) (by rw [f, s2 35 g (by omega) (by omega), r4]; exact h9) (fun i j h1 h2 h3 => s2 i j (by omega) (by omega))
  · have hne : ¬ q.2.2.2 = -1 := by rw [h9]; exact nI_nem (by omega)
    have hkk : qk q = k := by
      unfold qk
      rw [h9, nI_clamp (by omega)]
    rw [if_neg hne]
    obtain ⟨S3, c1, c2⟩ := m_costsOf (N := N) Zk hM2 hg hk (by rw [s2 35 g (by omega) (by omega), r4]; exact h9) (by rw [s2 99 37 (by omega) (by omega)]; exact hh) hb (by
      unfold mW
      rw [s2 99 41 (by omega) (by omega)]
      exact hw) hN
    rw [v1, v2, s2 99 37 (by omega) (by omega), s2 18 g (by omega) (by omega), hh, h18, ← hkk] at c1
    have c1 : fX12_costsOf N (nI g) S2 = some (fC Z e we (nI h) q, S3) := c1
    unfold fX12_anHour_b153 fX12_pay fX12_pay_b0
    rw [bnd_t c1]
    dsimp only
    rw [chk_t hin, hgc]
    show ∃ S', bnd (if S3 33 g < fC Z e we (nI h) q then fX12_pay_b29 N (nI g) S3 else fX12_pay_b16 N (nI g) (fC Z e we (nI h) q) S3) (fun q1 => fX12_anHour_b158 N r (nI g) q1.2) = _ ∧ _
    rw [c2 33 g rfl, v2]
    by_cases hl : fP e q < fC Z e we (nI h) q
    · rw [if_pos hl]
      unfold fX12_pay_b29
      rw [chk_t hin, hgc]
      show ∃ S', fX12_anHour_b158 N r (nI g) (sU S3 35 g (-1)) = _ ∧ _
      have f : fH Z e we (nI h) q = (fP e q, -1) := by unfold fH; rw [if_neg hne, if_pos hl]
      refine fin _ ?_ ?_ ?_ ?_ ?_ (fun i j h1 h2 h3 => ?_)
      · rw [sU_n (by omega), c2 5 2 rfl]; exact hM2.2.2.1
      · rw [sU_n (by omega), c2 32 g rfl]; exact v1
      · rw [sU_n (by omega), c2 33 g rfl, f]; exact v2
      · rw [sU_n (by omega), c2 34 g rfl, s2 34 g (by omega) (by omega)]; exact r3
      · rw [sU_s, f]
      · rw [sU_n (by omega), c2 i j (mRu_f h1 h2), s2 i j (by omega) (by omega)]
    · rw [if_neg hl]
      unfold fX12_pay_b16
      rw [chk_t hin, chk_t hin, hgc, c2 33 g rfl, v2]
      show ∃ S', fX12_anHour_b158 N r (nI g) (sU S3 33 g (fP e q - fC Z e we (nI h) q)) = _ ∧ _
      have f : fH Z e we (nI h) q = (fP e q - fC Z e we (nI h) q, q.2.2.2) := by unfold fH; rw [if_neg hne, if_neg hl]
      refine fin _ ?_ ?_ ?_ ?_ ?_ (fun i j h1 h2 h3 => ?_)
      · rw [sU_n (by omega), c2 5 2 rfl]; exact hM2.2.2.1
      · rw [sU_n (by omega), c2 32 g rfl]; exact v1
      · rw [sU_s, f]
      · rw [sU_n (by omega), c2 34 g rfl, s2 34 g (by omega) (by omega)]; exact r3
      · rw [sU_n (by omega), c2 35 g rfl, s2 35 g (by omega) (by omega), f]; exact r4
      · rw [sU_n (by omega), c2 i j (mRu_f h1 h2), s2 i j (by omega) (by omega)]
end
def rowsM (n : Nat) (S : gS) (qs : Nat → qT) : Prop := ∀ g, g < n → S 32 g = (qs g).1 ∧ S 33 g = (qs g).2.1 ∧ S 34 g = (qs g).2.2.1 ∧ S 35 g = (qs g).2.2.2
noncomputable def mHo (i j : Nat) : Bool := i == 42 || i == 43 || (32 ≤ i && i ≤ 35 && j < 6) || (i == 99 && (j == 37 || j == 44 || j == 45))
theorem mHo_f {i j : Nat} (h : mHo i j = false) : i ≠ 42 ∧ i ≠ 43 ∧ ¬ (32 ≤ i ∧ i ≤ 35 ∧ j < 6) ∧ ¬ (i = 99 ∧ (j = 37 ∨ j = 44 ∨ j = 45)) := by
  unfold mHo at h
  simp only [Bool.or_eq_false_iff, Bool.and_eq_false_iff, beq_eq_false_iff_ne, decide_eq_false_iff_not] at h
  omega
theorem drB_snoc {c : Nat → Bool} : ∀ (m k : Nat) (acc : Int32), drB c (m + 1) k acc = if c (k + m) = true then drB c m k acc ||| ((1 : Int32) <<< (nI (k + m) &&& 31)) else drB c m k acc := by
  intro m
  induction m with
  | zero => intro k acc; rfl
  | succ m ih =>
    intro k acc
    show drB c (m + 1) (k + 1) _ = _
    rw [ih (k + 1) _, show k + 1 + m = k + (m + 1) by omega]
    rfl
section
variable {N h : Nat} {Z : gS} {we : Int32} {e : Nat → Int32} {qs : Nat → qT}
/-- the second loop -/
theorem m_h82 (Zk : tOK Z) (qo : ∀ g, g < tn1 Z → hOK (tn0 Z) (qs g)) (hb : h < 2 ^ 30) (hN : 700 < N) {S0 : gS} (hM : tM Z S0) (he : ∀ g, g < tn1 Z → S0 18 g = e g) (hh : S0 99 37 = nI h) (hw : mW Z S0 we h) (R : rowsM (tn1 Z) S0 qs) (h45 : S0 99 45 = 0) :
    Gv (fX12_anHour_h82 N N 0 S0) (fun r => r.1 = 0 ∧ rowsM (tn1 Z) r.2 (fun g => (hFin Z (e g) we (nI h) (qs g)).2) ∧ r.2 99 37 = nI (h + 1) ∧ r.2 99 45 = drB (fun g => (hFin Z (e g) we (nI h) (qs g)).1) (tn1 Z) 0 0 ∧ oSame mHo S0 r.2) := by
  have z6 := Zk.2.1.2
  refine loopG (fun f g S => fX12_anHour_h82 N f (nI g) S) (fun g S => (∀ i j, i ≠ 42 → i ≠ 43 → ¬ (32 ≤ i ∧ i ≤ 35 ∧ j < 6) → ¬ (i = 99 ∧ j = 45) → S i j = S0 i j) ∧ S 99 45 = drB (fun g => (hFin Z (e g) we (nI h) (qs g)).1) g 0 0 ∧ rowsM (tn1 Z) S (fun g' => if g' < g then (hFin Z (e g') we (nI h) (qs g')).2 else qs g')) _ (tn1 Z) ?_ ?_ (tn1 Z) 0 S0 N (by omega) ⟨fun _ _ _ _ _ _ => rfl, h45, fun g hg => by dsimp only; rw [if_neg (by omega)]; exact R g hg⟩ (by omega)
  · rintro f S ⟨i1, i2, i3⟩
    show Gv (fX12_anHour_b82 N _ (nI (tn1 Z)) S) _
    unfold fX12_anHour_b82
    rw [i1 5 1 (by omega) (by omega) (by omega) (by omega), hM.2.1, if_pos (nI_le (Nat.le_refl _) (by omega))]
    refine ⟨(0, sU S 99 37 (nI (h + 1))), ?_, rfl, fun g hg => ?_, (sU_s : sU S 99 37 (nI (h + 1)) 99 37 = _), ?_, fun i j hij => ?_⟩
    · unfold fX12_anHour_b224
      dsimp only [lt]
      rw [i1 99 37 (by omega) (by omega) (by omega) (by omega), hh, nI_1]
    · dsimp only
      have := i3 g hg
      dsimp only at this
      rw [if_pos hg] at this
      rw [sU_n (by omega), sU_n (by omega), sU_n (by omega), sU_n (by omega)]
      exact this
    · dsimp only
      rw [sU_n (by omega)]
      exact i2
    · obtain ⟨a1, a2, a3, a4⟩ := mHo_f hij
      dsimp only
      rw [sU_n (by omega)]
      exact i1 i j a1 a2 a3 (by omega)
  · rintro f g S hg ⟨i1, i2, i3⟩
    refine Or.inr ?_
    obtain ⟨r1, r2, r3, r4⟩ := i3 g hg
    dsimp only at r1 r2 r3 r4
    rw [if_neg (Nat.lt_irrefl g)] at r1 r2 r3 r4
    obtain ⟨S', b1, b2, b3, b4, b5, b6, b7⟩ := m_92 (N := N) (e := e g) (q := qs g) (r := fX12_anHour_h82 N f) Zk (hM.on (fun i j h1 h2 => i1 i j (by omega) (by omega) (by omega) (by omega))) (show g < 6 by omega) (qo g hg) (by rw [i1 18 g (by omega) (by omega) (by omega) (by omega)]; exact he g hg) (by rw [i1 99 37 (by omega) (by omega) (by omega) (by omega)]; exact hh) (by omega) (by
      unfold mW
      rw [i1 99 41 (by omega) (by omega) (by omega) (by omega)]
      exact hw) r1 r2 r3 r4 hN
    refine ⟨S', ⟨fun i j h1 h2 h3 h4 => ?_, ?_, fun g' hg' => ?_⟩, ?_⟩
    · rw [b7 i j h1 h2 (by omega) h4]
      exact i1 i j h1 h2 h3 h4
    · rw [b6, i2, drB_snoc, Nat.zero_add]
    · by_cases hgg : g' = g
      · subst hgg
        dsimp only
        rw [if_pos (Nat.lt_succ_self _)]
        exact ⟨b2, b3, b4, b5⟩
      · rw [b7 32 g' (by omega) (by omega) (by omega) (by omega), b7 33 g' (by omega) (by omega) (by omega) (by omega), b7 34 g' (by omega) (by omega) (by omega) (by omega), b7 35 g' (by omega) (by omega) (by omega) (by omega)]
        have := i3 g' hg'
        dsimp only at this ⊢
        by_cases hl : g' < g
        · rw [if_pos hl] at this
          rw [if_pos (by omega)]
          exact this
        · rw [if_neg hl] at this
          rw [if_neg (by omega)]
          exact this
    · show fX12_anHour_b82 N (fX12_anHour_h82 N f) (nI g) S = _
      unfold fX12_anHour_b82
      rw [i1 5 1 (by omega) (by omega) (by omega) (by omega), hM.2.1, if_neg (nI_ge hg (by omega))]
      exact b1
end
end

/-! part 46.amhour -/
section
theorem hoR_cases {r : Nat → Int32} {x : Int32} : ∀ (m k : Nat), (hoR r x m k = -1 ∧ ∀ i, k ≤ i → i < k + m → r i ≠ x) ∨ ∃ g, k ≤ g ∧ g < k + m ∧ r g = x ∧ hoR r x m k = nI g := by
  intro m
  induction m with
  | zero => intro k; exact Or.inl ⟨rfl, fun i h1 h2 => by omega⟩
  | succ m ih =>
    intro k
    by_cases h : r k = x
    · exact Or.inr ⟨k, Nat.le_refl _, by omega, h, if_pos h⟩
    · have e : hoR r x (m + 1) k = hoR r x m (k + 1) := if_neg h
      rw [e]
      rcases ih (k + 1) with ⟨h1, h2⟩ | ⟨g, h1, h2, h3, h4⟩
      · refine Or.inl ⟨h1, fun i a b => ?_⟩
        by_cases hi : i = k
        · subst hi; exact h
        · exact h2 i (by omega) (by omega)
      · exact Or.inr ⟨g, by omega, by omega, h3, h4⟩
section
variable {N g k h f : Nat} {Z S : gS} {we : Int32}
theorem m_pr48 {r : Int32 → gS → Option (Int32 × gS)} (Zk : tOK Z) (hM : tM Z S) (hg : g < 6) (hk : k < tn0 Z) (h35 : S 35 g = nI k) (hh : S 99 37 = nI h) (hb : h < 2 ^ 31) (hw : mW Z S we h) (hN : 700 < N) : ∃ S', fX12_anHour_h48 N r (f + 3) (nI k) (nI g) 0 S = r (nI (k + 1)) S' ∧ S' 32 g = prD Z k (S 32 g) (S 33 g) we (S 99 37) (S 18 g) ∧ (∀ i j, i ≠ 42 → i ≠ 43 → ¬ (i = 32 ∧ j = g) → S' i j = S i j) := by
  have z8 := Zk.1.2
  have hng : ¬ nI g = -1 := nI_nem (by omega)
  have hkc : (nI k).toNatClampNeg = k := nI_clamp (by omega)
  have hik : inb (nI k) 16 = true := inb_t (by omega) (by decide)
  obtain ⟨-, -, -, h4⟩ := Zk.2.2.2.2.1 k hk
  have m4 := (hM.2.2.2.2.2.2.2.1 k hk).2.2.2
  obtain ⟨S1, p1, p2⟩ := m_pray (N := N) Zk hM hg hk h35 hh hb hw hN
  have q1 : ∀ i j, i ≠ 42 → i ≠ 43 → ¬ (i = 32 ∧ j = g) → sU S1 32 g (prZ Z k (S 32 g) (S 33 g) we (S 99 37) (S 18 g)) i j = S i j := fun i j a1 a2 a3 => by rw [sU_n a3, p2 i j (mRu_f a1 a2)]
  have st0 : ∀ F, fX12_anHour_b48 N r F (nI k) (nI g) 0 S = F (nI k) (nI g) 1 (sU S1 32 g (prZ Z k (S 32 g) (S 33 g) we (S 99 37) (S 18 g))) := by
    intro F
    unfold fX12_anHour_b48
    rw [if_neg hng]
    unfold fX12_anHour_b53
    rw [chk_t hik, hkc, m4, if_neg (by rcases h4 with h4 | h4 <;> rw [h4] <;> decide)]
    unfold fX12_anHour_b63
    rw [bnd_t p1]
    rfl
  show ∃ S', fX12_anHour_b48 N r (fX12_anHour_h48 N r (f + 2)) (nI k) (nI g) 0 S = _ ∧ _
  rw [st0]
  show ∃ S', fX12_anHour_b48 N r (fX12_anHour_h48 N r (f + 1)) (nI k) (nI g) 1 _ = _ ∧ _
  generalize hS2 : sU S1 32 g (prZ Z k (S 32 g) (S 33 g) we (S 99 37) (S 18 g)) = S2 at q1
  have v2 : S2 32 g = prZ Z k (S 32 g) (S 33 g) we (S 99 37) (S 18 g) := by rw [← hS2, sU_s]
  unfold fX12_anHour_b48
  rw [if_neg hng]
  unfold fX12_anHour_b53
  rw [chk_t hik, hkc, q1 6 k (by omega) (by omega) (by omega), m4]
  rcases h4 with h4 | h4
  · rw [if_pos (by rw [h4]; decide)]
    refine ⟨S2, ?_, ?_, q1⟩
    · unfold fX12_anHour_b74
      rw [nI_1]
    · unfold prD
      rw [if_pos h4]
      exact v2
  · have h4' : ¬ Z 4 k = 0 := by rw [h4]; decide
    rw [if_neg (by rw [h4]; decide)]
    unfold fX12_anHour_b63
    obtain ⟨S3, p3, p4⟩ := m_pray (N := N) (S := S2) (we := we) (h := h) Zk (hM.on (fun i j a1 a2 => q1 i j (by omega) (by omega) (by omega))) hg hk (by rw [q1 35 g (by omega) (by omega) (by omega)]; exact h35) (by rw [q1 99 37 (by omega) (by omega) (by omega)]; exact hh) hb (by
      unfold mW
      rw [q1 99 41 (by omega) (by omega) (by omega)]
      exact hw) hN
    rw [bnd_t p3]
    show ∃ S', fX12_anHour_b48 N r (fX12_anHour_h48 N r f) (nI k) (nI g) 2 (sU S3 32 g (prZ Z k (S2 32 g) (S2 33 g) we (S2 99 37) (S2 18 g))) = _ ∧ _
    have q3 : ∀ x i j, i ≠ 42 → i ≠ 43 → ¬ (i = 32 ∧ j = g) → sU S3 32 g x i j = S i j := fun x i j a1 a2 a3 => by rw [sU_n a3, p4 i j (mRu_f a1 a2), q1 i j a1 a2 a3]
    unfold fX12_anHour_b48
    rw [if_neg hng]
    unfold fX12_anHour_b53
    rw [chk_t hik, hkc, q3 _ 6 k (by omega) (by omega) (by omega), m4, if_pos (by rw [h4]; decide)]
    refine ⟨_, ?_, ?_, q3 (prD Z k (S 32 g) (S 33 g) we (S 99 37) (S 18 g))⟩
    · unfold fX12_anHour_b74 prD
      rw [nI_1, if_neg h4', v2, q1 33 g (by omega) (by omega) (by omega), q1 99 37 (by omega) (by omega) (by omega), q1 18 g (by omega) (by omega) (by omega)]
    · rw [sU_s]
end
section
variable {N h : Nat} {Z : gS} {we d : Int32} {e : Nat → Int32} {qs : Nat → qT}
theorem m_anHour {S : gS} (Zk : tOK Z) (qo : ∀ g, g < tn1 Z → hOK (tn0 Z) (qs g)) (uq : ∀ g g', g < tn1 Z → g' < tn1 Z → (qs g).2.2.2 = (qs g').2.2.2 → (qs g).2.2.2 ≠ -1 → g = g') (hb : h < 2 ^ 30) (hN : 700 < N) (hM : tM Z S) (he : ∀ g, g < tn1 Z → S 18 g = e g) (hh : S 99 37 = nI h) (hd : S 99 38 = d) (hw : mW Z S we h) (hw0 : 0 ≤ we) (R : rowsM (tn1 Z) S qs) :
    ∃ S', fX12_anHour N S = some (0, S') ∧ rowsM (tn1 Z) S' (fun g => (hG Z (e g) d we (nI h) (qs g)).2) ∧ S' 99 37 = nI (h + 1) ∧ S' 99 45 = drB (fun g => (hG Z (e g) d we (nI h) (qs g)).1) (tn1 Z) 0 0 ∧ oSame mHo S S' := by
  have z8 := Zk.1.2
  have z6 := Zk.2.1.2
  have hB : fX12_drippingNow N S = some (drB (fun k => drZ Z k (nI h) we d) (tn0 Z) 0 0, S) := by
    rw [m_drippingNow (n := tn0 Z) hM.1 z8 (fun k hk => by
      obtain ⟨⟨x, x1, x2, x3⟩, -⟩ := Zk.2.2.2.2.1 k hk
      exact ⟨x, x1, x2, (hM.2.2.2.2.2.2.2.1 k hk).1.trans x3⟩) (m_wetW Zk hM hh (by omega) hw) hw0 (by omega)]
    refine congrArg (fun z => some (z, S)) (drB_eq _ _ _ (fun k _ hk => ?_))
    obtain ⟨m1, m2, -, -⟩ := hM.2.2.2.2.2.2.2.1 k (by omega)
    unfold drZ
    rw [m1, m2, hh, hd]
  have hbt : ∀ k, k < tn0 Z → bt (drB (fun k => drZ Z k (nI h) we d) (tn0 Z) 0 0) (nI k) = drZ Z k (nI h) we d := by
    intro k hk
    rw [bt_bb (by omega), bb_drB (by omega) (tn0 Z) 0 0 (by omega), bb_0, decide_eq_true (p := 0 ≤ k) (by omega), decide_eq_true (p := k < 0 + tn0 Z) (by omega)]
    simp
  obtain ⟨S0, hS0⟩ : ∃ z, z = sU (sU S 99 44 (drB (fun k => drZ Z k (nI h) we d) (tn0 Z) 0 0)) 99 45 0 := ⟨_, rfl⟩
  have s0 : ∀ i j, ¬ (i = 99 ∧ (j = 44 ∨ j = 45)) → S0 i j = S i j := fun i j hij => by rw [hS0, sU_n (by omega), sU_n (by omega)]
  have h44 : S0 99 44 = drB (fun k => drZ Z k (nI h) we d) (tn0 Z) 0 0 := by rw [hS0, sU_n (by omega), sU_s]
  have h45 : S0 99 45 = 0 := by rw [hS0, sU_s]
  have main : Gv (fX12_anHour_h15 N N 0 S0) (fun r => r.1 = 0 ∧ rowsM (tn1 Z) r.2 (fun g => (hG Z (e g) d we (nI h) (qs g)).2) ∧ r.2 99 37 = nI (h + 1) ∧ r.2 99 45 = drB (fun g => (hG Z (e g) d we (nI h) (qs g)).1) (tn1 Z) 0 0 ∧ oSame mHo S r.2) := by
    refine loopG (fun f k S => fX12_anHour_h15 N f (nI k) S) (fun k S' => (∀ i j, i ≠ 42 → i ≠ 43 → ¬ (i = 32 ∧ j < 6) → S' i j = S0 i j) ∧ ∀ g, g < tn1 Z → S' 32 g = if qk (qs g) < k then sn1 Z (e g) d we (nI h) (qs g) else (qs g).1) _ (tn0 Z) ?_ ?_ (tn0 Z) 0 S0 N (by omega) ⟨fun _ _ _ _ _ => rfl, fun g hg => by rw [if_neg (by omega), s0 32 g (by omega)]; exact (R g hg).1⟩ (by omega)
    · rintro f S1 ⟨i1, i2⟩
      show Gv (fX12_anHour_b15 N _ (nI (tn0 Z)) S1) _
      unfold fX12_anHour_b15
      rw [i1 5 0 (by omega) (by omega) (by omega), s0 5 0 (by omega), hM.1, if_pos (nI_le (Nat.le_refl _) (by omega))]
      unfold fX12_anHour_b80
      have i3 : ∀ i j, i ≠ 42 → i ≠ 43 → ¬ (i = 32 ∧ j < 6) → ¬ (i = 99 ∧ (j = 44 ∨ j = 45)) → S1 i j = S i j := fun i j a1 a2 a3 a4 => (i1 i j a1 a2 a3).trans (s0 i j a4)
      refine Gv.m (m_h82 (e := e) (we := we) (h := h) (qs := fun g => (sn1 Z (e g) d we (nI h) (qs g), (qs g).2)) Zk (fun g hg => qo g hg) hb hN (hM.on (fun i j a1 a2 => i3 i j (by omega) (by omega) (by omega) (by omega))) (fun g hg => by rw [i3 18 g (by omega) (by omega) (by omega) (by omega)]; exact he g hg) (by rw [i3 99 37 (by omega) (by omega) (by omega) (by omega)]; exact hh) (by
        unfold mW
        rw [i3 99 41 (by omega) (by omega) (by omega) (by omega)]
        exact hw) (fun g hg => ?_) (by rw [i1 99 45 (by omega) (by omega) (by omega)]; exact h45)) ?_
      · obtain ⟨r1, r2, r3, r4⟩ := R g hg
        have hl : qk (qs g) < tn0 Z ∨ (qs g).2.2.2 = -1 := by
          rcases qo g hg with h9 | ⟨k, hk, h9⟩
          · exact Or.inr h9
          · refine Or.inl ?_
            unfold qk
            rw [h9, nI_clamp (by omega)]
            exact hk
        refine ⟨?_, by rw [i3 33 g (by omega) (by omega) (by omega) (by omega)]; exact r2, by rw [i3 34 g (by omega) (by omega) (by omega) (by omega)]; exact r3, by rw [i3 35 g (by omega) (by omega) (by omega) (by omega)]; exact r4⟩
        rw [i2 g hg]
        by_cases h8 : qk (qs g) < tn0 Z
        · rw [if_pos h8]
        · rw [if_neg h8]
          have h9 : (qs g).2.2.2 = -1 := hl.resolve_left h8
          show (qs g).1 = sn1 Z (e g) d we (nI h) (qs g)
          unfold sn1
          rw [if_pos h9]
      · rintro r ⟨a1, a2, a3, a4, a5⟩
        refine ⟨a1, a2, a3, a4, fun i j hij => ?_⟩
        obtain ⟨b1, b2, b3, b4⟩ := mHo_f hij
        rw [a5 i j hij]
        exact i3 i j b1 b2 (by omega) (by omega)
    · rintro f k S1 hk ⟨i1, i2⟩
      refine Or.inr ?_
      have i3 : ∀ i j, i ≠ 42 → i ≠ 43 → ¬ (i = 32 ∧ j < 6) → ¬ (i = 99 ∧ (j = 44 ∨ j = 45)) → S1 i j = S i j := fun i j a1 a2 a3 a4 => (i1 i j a1 a2 a3).trans (s0 i j a4)
      have hF : fX12_anHour_h15 N (f + 1) (nI k) S1 = if iv (drZ Z k (nI h) we d) = 0 then fX12_anHour_b44 N (fX12_anHour_h15 N f) (nI k) S1 else fX12_anHour_b36 N (fX12_anHour_h15 N f) (nI k) S1 := by
        show fX12_anHour_b15 N (fX12_anHour_h15 N f) (nI k) S1 = _
        unfold fX12_anHour_b15
        rw [i1 5 0 (by omega) (by omega) (by omega), s0 5 0 (by omega), hM.1, if_neg (nI_ge hk (by omega))]
        unfold fX12_anHour_b25
        rw [i1 99 44 (by omega) (by omega) (by omega), h44, bnd_t m_isOf, hbt k hk]
      obtain ⟨N3, hN3⟩ : ∃ z, N = z + 3 := ⟨N - 3, by omega⟩
      have skip : fX12_anHour_b45 N (fX12_anHour_h15 N f) (nI k) (-1) S1 = fX12_anHour_h15 N f (nI (k + 1)) S1 := by
        unfold fX12_anHour_b45
        have : ∀ M, fX12_anHour_h48 N (fX12_anHour_h15 N f) (M + 1) (nI k) (-1) 0 S1 = fX12_anHour_h15 N f (nI (k + 1)) S1 := by
          intro M
          show fX12_anHour_b48 N (fX12_anHour_h15 N f) _ (nI k) (-1) 0 S1 = _
          unfold fX12_anHour_b48
          rw [if_pos rfl]
          unfold fX12_anHour_b74
          rw [nI_1]
        have h9 := this (N - 1)
        rw [show N - 1 + 1 = N by omega] at h9
        exact h9
      have keepI : ∀ (hno : ∀ g, g < tn1 Z → qk (qs g) = k → sn1 Z (e g) d we (nI h) (qs g) = (qs g).1), (∀ i j, i ≠ 42 → i ≠ 43 → ¬ (i = 32 ∧ j < 6) → S1 i j = S0 i j) ∧ ∀ g, g < tn1 Z → S1 32 g = if qk (qs g) < k + 1 then sn1 Z (e g) d we (nI h) (qs g) else (qs g).1 := by
        intro hno
        refine ⟨i1, fun g hg => ?_⟩
        rw [i2 g hg]
        by_cases h8 : qk (qs g) < k
        · rw [if_pos h8, if_pos (by omega)]
        · rw [if_neg h8]
          by_cases h7 : qk (qs g) = k
          · rw [if_pos (by omega), hno g hg h7]
          · rw [if_neg (by omega)]
      cases hdr : drZ Z k (nI h) we d with
      | false =>
        refine ⟨S1, keepI (fun g hg hqk => ?_), ?_⟩
        · unfold sn1
          by_cases h9 : (qs g).2.2.2 = -1
          · rw [if_pos h9]
          · rw [if_neg h9, hqk, hdr]
            rfl
        · show fX12_anHour_h15 N (f + 1) (nI k) S1 = _
          rw [hF, hdr]
          exact skip
      | true =>
        have hF2 : fX12_anHour_h15 N (f + 1) (nI k) S1 = fX12_anHour_b45 N (fX12_anHour_h15 N f) (nI k) (hoR (S1 35) (nI k) (tn1 Z) 0) S1 := by
          rw [hF, hdr]
          show fX12_anHour_b36 N (fX12_anHour_h15 N f) (nI k) S1 = _
          unfold fX12_anHour_b36
          rw [bnd_t (m_hirerOf (by rw [i3 5 1 (by omega) (by omega) (by omega) (by omega)]; exact hM.2.1) z6 (by omega))]
        have r35 : ∀ g, g < tn1 Z → S1 35 g = (qs g).2.2.2 := fun g hg => by
          rw [i3 35 g (by omega) (by omega) (by omega) (by omega)]
          exact (R g hg).2.2.2
        have hq3 : ∀ g, g < tn1 Z → qk (qs g) = k → (qs g).2.2.2 = -1 ∨ (qs g).2.2.2 = nI k := by
          intro g hg hqk
          rcases qo g hg with h9 | ⟨k', hk', h9⟩
          · exact Or.inl h9
          · unfold qk at hqk
            rw [h9, nI_clamp (by omega)] at hqk
            exact Or.inr (by rw [h9, hqk])
        rcases hoR_cases (r := S1 35) (x := nI k) (tn1 Z) 0 with ⟨o1, o2⟩ | ⟨g0, -, g1, o2, o1⟩
        · refine ⟨S1, keepI (fun g hg hqk => ?_), ?_⟩
          · unfold sn1
            rcases hq3 g hg hqk with h9 | h9
            · rw [if_pos h9]
            · exact absurd ((r35 g hg).trans h9) (o2 g (by omega) (by omega))
          · show fX12_anHour_h15 N (f + 1) (nI k) S1 = _
            rw [hF2, o1]
            exact skip
        · have hg0 : g0 < tn1 Z := by omega
          have hk0 : (qs g0).2.2.2 = nI k := (r35 g0 hg0).symm.trans o2
          have hkk : qk (qs g0) = k := by
            unfold qk
            rw [hk0, nI_clamp (by omega)]
          obtain ⟨S2, t1, t2, t3⟩ := m_pr48 (N := N) (f := N3) (g := g0) (k := k) (h := h) (we := we) (S := S1) (r := fX12_anHour_h15 N f) Zk (hM.on (fun i j a1 a2 => i3 i j (by omega) (by omega) (by omega) (by omega))) (by omega) hk o2 (by rw [i3 99 37 (by omega) (by omega) (by omega) (by omega)]; exact hh) (by omega) (by
            unfold mW
            rw [i3 99 41 (by omega) (by omega) (by omega) (by omega)]
            exact hw) hN
          refine ⟨S2, ⟨fun i j a1 a2 a3 => (t3 i j a1 a2 (by omega)).trans (i1 i j a1 a2 a3), fun g hg => ?_⟩, ?_⟩
          · by_cases hgg : g = g0
            · subst hgg
              rw [t2, if_pos (by omega), i2 g hg, if_neg (by omega), i3 33 g (by omega) (by omega) (by omega) (by omega), (R g hg).2.1, i3 99 37 (by omega) (by omega) (by omega) (by omega), hh, i3 18 g (by omega) (by omega) (by omega) (by omega), he g hg]
              unfold sn1
              rw [if_neg (by rw [hk0]; exact nI_nem (by omega)), hkk, hdr, if_pos rfl]
            · rw [t3 32 g (by omega) (by omega) (by omega), i2 g hg]
              by_cases h8 : qk (qs g) < k
              · rw [if_pos h8, if_pos (by omega)]
              · rw [if_neg h8]
                by_cases h7 : qk (qs g) = k
                · rw [if_pos (by omega)]
                  unfold sn1
                  rcases hq3 g hg h7 with h9 | h9
                  · rw [if_pos h9]
                  · exact absurd (uq g g0 hg hg0 (h9.trans hk0.symm) (by rw [h9]; exact nI_nem (by omega))) hgg
                · rw [if_neg (by omega)]
          · show fX12_anHour_h15 N (f + 1) (nI k) S1 = _
            rw [hF2, o1]
            unfold fX12_anHour_b45
            rw [← hN3] at t1
            exact t1
  obtain ⟨⟨v, S'⟩, r1, r2, r3⟩ := main
  dsimp only at r2 r3
  subst r2
  refine ⟨S', ?_, r3⟩
  unfold fX12_anHour fX12_anHour_b0
  rw [bnd_t hB]
  dsimp only [lt]
  rw [← hS0]
  exact r1
end
end

/-! part 47.asit -/
section
/-! what is so now, as a picture; ways of GUILDS through HOURS -/
noncomputable def trj (Z : gS) (e d : Int32) (wf : Nat → Int32) (h : Nat) (q : qT) : Nat → qT
  | 0 => q
  | n + 1 => (hG Z e d (wf (h + n)) (nI (h + n)) (trj Z e d wf h q n)).2
noncomputable def trB (Z : gS) (e d : Int32) (wf : Nat → Int32) (h : Nat) (q : qT) (n : Nat) : Bool := (hG Z e d (wf (h + n)) (nI (h + n)) (trj Z e d wf h q n)).1
def eOK (e : Int32) : Prop := ∃ x : Nat, x ≤ 9 ∧ e = nI x
theorem trj_ok {Z : gS} {e d : Int32} {wf : Nat → Int32} {h n0 : Nat} {q : qT} (hq : qOK n0 q) (he : eOK e) : ∀ n, qOK n0 (trj Z e d wf h q n) := by
  intro n
  induction n with
  | zero => exact hq
  | succ n ih => exact hG_ok ih he
theorem trj_hired {Z : gS} {e d : Int32} {wf : Nat → Int32} {h : Nat} {q : qT} : ∀ n, (trj Z e d wf h q n).2.2.2 = -1 ∨ (trj Z e d wf h q n).2.2.2 = q.2.2.2 := by
  intro n
  induction n with
  | zero => exact Or.inr rfl
  | succ n ih =>
    rcases hG_hired (Z := Z) (e := e) (d := d) (we := wf (h + n)) (ho := nI (h + n)) (q := trj Z e d wf h q n) with h1 | h1
    · exact Or.inl h1
    · rcases ih with h2 | h2
      · exact Or.inl (h1.trans h2)
      · exact Or.inr (h1.trans h2)
def qsOK (Z : gS) (e : Nat → Int32) (qs : Nat → qT) : Prop := (∀ g, g < tn1 Z → qOK (tn0 Z) (qs g)) ∧ (∀ g g', g < tn1 Z → g' < tn1 Z → (qs g).2.2.2 = (qs g').2.2.2 → (qs g).2.2.2 ≠ -1 → g = g') ∧ ∀ g, g < tn1 Z → eOK (e g)
def mSit (Z S : gS) (h : Nat) (d : Int32) (e : Nat → Int32) (qs : Nat → qT) : Prop := tM Z S ∧ (∀ g, g < tn1 Z → S 18 g = e g) ∧ S 99 37 = nI h ∧ S 99 38 = d ∧ rowsM (tn1 Z) S qs
noncomputable def nxt (Z : gS) (h : Nat) (d we : Int32) (e : Nat → Int32) (qs : Nat → qT) : Nat → qT := fun g => (hG Z (e g) d we (nI h) (qs g)).2
theorem qsOK.nx {Z : gS} {h : Nat} {d we : Int32} {e : Nat → Int32} {qs : Nat → qT} (K : qsOK Z e qs) : qsOK Z e (nxt Z h d we e qs) := by
  obtain ⟨k1, k2, k3⟩ := K
  refine ⟨fun g hg => hG_ok (k1 g hg) (k3 g hg), fun g g' hg hg' h1 h2 => ?_, k3⟩
  rcases hG_hired (Z := Z) (e := e g) (d := d) (we := we) (ho := nI h) (q := qs g) with a | a
  · exact absurd a h2
  · rcases hG_hired (Z := Z) (e := e g') (d := d) (we := we) (ho := nI h) (q := qs g') with b | b
    · exact absurd (h1.trans b) h2
    · exact k2 g g' hg hg' (a.symm.trans (h1.trans b)) (fun q => h2 (a.trans q))
theorem qsOK.tr {Z : gS} {h : Nat} {d : Int32} {wf : Nat → Int32} {e : Nat → Int32} {qs : Nat → qT} (K : qsOK Z e qs) (n : Nat) : qsOK Z e (fun g => trj Z (e g) d wf h (qs g) n) := by
  induction n with
  | zero => exact K
  | succ n ih => exact ih.nx (h := h + n) (d := d) (we := wf (h + n))
def qsH (Z : gS) (qs : Nat → qT) : Prop := (∀ g, g < tn1 Z → hOK (tn0 Z) (qs g)) ∧ ∀ g g', g < tn1 Z → g' < tn1 Z → (qs g).2.2.2 = (qs g').2.2.2 → (qs g).2.2.2 ≠ -1 → g = g'
theorem qsOK.h {Z : gS} {e : Nat → Int32} {qs : Nat → qT} (K : qsOK Z e qs) : qsH Z qs := ⟨fun g hg => (K.1 g hg).2.2.2, K.2.1⟩
theorem qsH.nx {Z : gS} {h : Nat} {d we : Int32} {e : Nat → Int32} {qs : Nat → qT} (K : qsH Z qs) : qsH Z (nxt Z h d we e qs) := by
  obtain ⟨k1, k2⟩ := K
  refine ⟨fun g hg => ?_, fun g g' hg hg' h1 h2 => ?_⟩
  · rcases hG_hired (Z := Z) (e := e g) (d := d) (we := we) (ho := nI h) (q := qs g) with a | a
    · exact Or.inl a
    · unfold hOK
      rw [show (nxt Z h d we e qs g).2.2.2 = (qs g).2.2.2 from a]
      exact k1 g hg
  · rcases hG_hired (Z := Z) (e := e g) (d := d) (we := we) (ho := nI h) (q := qs g) with a | a
    · exact absurd a h2
    · rcases hG_hired (Z := Z) (e := e g') (d := d) (we := we) (ho := nI h) (q := qs g') with b | b
      · exact absurd (h1.trans b) h2
      · exact k2 g g' hg hg' (a.symm.trans (h1.trans b)) (fun q => h2 (a.trans q))
theorem qsH.tr {Z : gS} {h : Nat} {d : Int32} {wf : Nat → Int32} {e : Nat → Int32} {qs : Nat → qT} (K : qsH Z qs) (n : Nat) : qsH Z (fun g => trj Z (e g) d wf h (qs g) n) := by
  induction n with
  | zero => exact K
  | succ n ih => exact ih.nx (h := h + n) (d := d) (we := wf (h + n)) (e := e)
theorem wetZ_pos {Z : gS} {h : Nat} (Zk : tOK Z) : 0 ≤ wetZ Z h := wetS_pos Zk.2.2.1.2.2
theorem mHo.sit0 {Z S S' : gS} {e : Nat → Int32} (s : oSame mHo S S') (hM : tM Z S) (he : ∀ g, g < tn1 Z → S 18 g = e g) : tM Z S' ∧ (∀ g, g < tn1 Z → S' 18 g = e g) ∧ S' 99 38 = S 99 38 ∧ S' 99 41 = S 99 41 := by
  refine ⟨hM.on (fun i j h1 h2 => s i j ?_), fun g hg => by rw [s 18 g rfl]; exact he g hg, s 99 38 rfl, s 99 41 rfl⟩
  rcases (show i = 5 ∨ i = 6 ∨ i = 7 ∨ i = 8 ∨ i = 9 ∨ i = 10 ∨ i = 11 ∨ i = 12 ∨ i = 13 ∨ i = 14 ∨ i = 15 ∨ i = 16 by omega) with rfl | rfl | rfl | rfl | rfl | rfl | rfl | rfl | rfl | rfl | rfl | rfl <;> rfl
section
variable {N h : Nat} {Z S : gS} {d we : Int32} {e : Nat → Int32} {qs : Nat → qT}
theorem m_step (Zk : tOK Z) (K : qsH Z qs) (hb : h < 2 ^ 30) (hN : 700 < N) (M : mSit Z S h d e qs) (hw : mW Z S we h) (hw0 : 0 ≤ we) : ∃ S', fX12_anHour N S = some (0, S') ∧ mSit Z S' (h + 1) d e (nxt Z h d we e qs) ∧ S' 99 45 = drB (fun g => (hG Z (e g) d we (nI h) (qs g)).1) (tn1 Z) 0 0 ∧ oSame mHo S S' := by
  obtain ⟨m1, m2, m3, m4, m5⟩ := M
  obtain ⟨S', r1, r2, r3, r4, r5⟩ := m_anHour (N := N) Zk K.1 K.2 hb hN m1 m2 m3 m4 hw hw0 m5
  obtain ⟨a1, a2, a3, a4⟩ := mHo.sit0 r5 m1 m2
  exact ⟨S', r1, ⟨a1, a2, r3, a3.trans m4, r2⟩, r4, r5⟩
theorem m_step1 (Zk : tOK Z) (K : qsH Z qs) (hb : h < 2 ^ 30) (hN : 700 < N) (M : mSit Z S h d e qs) (h41 : S 99 41 = -1) : ∃ S', fX12_anHour N S = some (0, S') ∧ mSit Z S' (h + 1) d e (nxt Z h d (wetZ Z h) e qs) ∧ S' 99 45 = drB (fun g => (hG Z (e g) d (wetZ Z h) (nI h) (qs g)).1) (tn1 Z) 0 0 ∧ oSame mHo S S' := m_step Zk K hb hN M (Or.inr ⟨h41, rfl⟩) (wetZ_pos Zk)
theorem m_goOn {n : Nat} (Zk : tOK Z) (K : qsH Z qs) (hb : h + n < 2 ^ 30) (hN : 700 < N) (hn : n < 700) (M : mSit Z S h d e qs) (h41 : S 99 41 = -1) : ∃ S', fX12_goOn N (nI n) S = some (0, S') ∧ mSit Z S' (h + n) d e (fun g => trj Z (e g) d (wetZ Z) h (qs g) n) ∧ oSame mHo S S' := by
  have main : Gv (fX12_goOn_h2 N N (nI n) 0 S) (fun r => r.1 = 0 ∧ mSit Z r.2 (h + n) d e (fun g => trj Z (e g) d (wetZ Z) h (qs g) n) ∧ oSame mHo S r.2) := by
    refine loopG (fun f k S => fX12_goOn_h2 N f (nI n) (nI k) S) (fun k S' => mSit Z S' (h + k) d e (fun g => trj Z (e g) d (wetZ Z) h (qs g) k) ∧ oSame mHo S S') _ n ?_ ?_ n 0 S N (by omega) ⟨M, oSame.rf⟩ (by omega)
    · rintro f S1 ⟨i1, i2⟩
      show Gv (fX12_goOn_b2 N _ (nI n) (nI n) S1) _
      unfold fX12_goOn_b2
      rw [if_pos (nI_le (Nat.le_refl _) (by omega))]
      exact ⟨(0, S1), rfl, rfl, i1, i2⟩
    · rintro f k S1 hk ⟨i1, i2⟩
      refine Or.inr ?_
      obtain ⟨S2, r1, r2, -, r4⟩ := m_step1 (N := N) Zk (K.tr (wf := wetZ Z) (h := h) (d := d) (e := e) k) (by omega) hN i1 (by rw [i2 99 41 rfl]; exact h41)
      refine ⟨S2, ⟨r2, i2.tr r4⟩, ?_⟩
      show fX12_goOn_b2 N (fX12_goOn_h2 N f) (nI n) (nI k) S1 = _
      unfold fX12_goOn_b2
      rw [if_neg (nI_ge hk (by omega))]
      unfold fX12_goOn_b7
      rw [bnd_t r1, nI_1]
  obtain ⟨⟨v, S'⟩, r1, r2, r3⟩ := main
  dsimp only at r2 r3
  subst r2
  exact ⟨S', r1, r3⟩
end
/-! the class's side -/
def cSit (nd : Nat) (Z S : gS) (h : Nat) (d : Int32) (qs : Nat → qT) : Prop := tXz (xtw S) Z S ∧ S nd 0 = nI h ∧ S nd 1 = d ∧ ∀ g, g < tn1 Z → S (nd + 1) g = (qs g).1 ∧ S (nd + 2) g = (qs g).2.1 ∧ S (nd + 3) g = (qs g).2.2.1 ∧ S (nd + 4) g = (qs g).2.2.2
theorem xWk_f {i j : Nat} (h : i ≠ 51 ∧ i ≠ 16 ∧ i ≠ 19 ∧ i ≠ 84 ∧ i ≠ 87) : xWk i j = false := by
  unfold xWk
  rw [beq_false_of_ne h.1, beq_false_of_ne h.2.1, beq_false_of_ne h.2.2.1, beq_false_of_ne h.2.2.2.1, beq_false_of_ne h.2.2.2.2]
  rfl
theorem xWk.tw {S S' : gS} (s : oSame xWk S S') : xtw S' = xtw S := by
  unfold xtw
  rw [s 0 7 rfl]
theorem xWk.same {S S' : gS} (s : oSame xWk S S') : xSame S S' := by
  intro i j h
  refine s i j (xWk_f ?_)
  refine ⟨?_, ?_, ?_, ?_, ?_⟩ <;> intro q <;> rw [q] at h <;> cases h
theorem cSit.on {nd : Nat} {Z S S' : gS} {h : Nat} {d : Int32} {qs : Nat → qT} (hnd : nd = 21 ∨ nd = 46) (C : cSit nd Z S h d qs) (s : oSame xWk S S') : cSit nd Z S' h d qs := by
  obtain ⟨c1, c2, c3, c4⟩ := C
  have hs : ∀ i j, nd ≤ i → i ≤ nd + 4 → S' i j = S i j := fun i j h1 h2 => s i j (xWk_f (by omega))
  refine ⟨by rw [xWk.tw s]; exact c1.on xtw_cases s, by rw [hs nd 0 (by omega) (by omega)]; exact c2, by rw [hs nd 1 (by omega) (by omega)]; exact c3, fun g hg => ?_⟩
  rw [hs (nd + 1) g (by omega) (by omega), hs (nd + 2) g (by omega) (by omega), hs (nd + 3) g (by omega) (by omega), hs (nd + 4) g (by omega) (by omega)]
  exact c4 g hg
section
variable {N nd h g : Nat} {Z S : gS} {d : Int32} {qs : Nat → qT}
theorem x_begin6 (hnd : nd = 21 ∨ nd = 46) (Zk : tOK Z) (C : cSit nd Z S h d qs) (hg : g < tn1 Z) (hb : h < 2 ^ 31) : ∃ S', fX10_begin N (xtw S) nd (nI g) S = some (0, S') ∧ wkA S' (Z 5 g) d (nI h) (qs g) ∧ oSame xWk S S' ∧ S' 51 6 = wetZ Z h := by
  obtain ⟨c1, c2, c3, c4⟩ := C
  obtain ⟨g1, g2, g3, g4⟩ := c4 g hg
  have z6 := Zk.2.1.2
  have hT := xtw_cases (S := S)
  generalize hTT : xtw S = T at c1 hT ⊢
  have hgc : (nI g).toNatClampNeg = g := nI_clamp (by omega)
  have hin : inb (nI g) 6 = true := inb_t (by omega) (by decide)
  have t5 : S T 5 = nI (tn1 Z) := (c1 0 5 (by omega) (by omega)).trans Zk.2.1.1
  obtain ⟨S1, e1⟩ : ∃ z, z = sU S 51 0 (Z 5 g) := ⟨_, rfl⟩
  have s1 : ∀ i j, i ≠ 51 → S1 i j = S i j := fun i j hi => by rw [e1, sU_n (by omega)]
  obtain ⟨S2, e2⟩ : ∃ z, z = sU S1 51 1 (qs g).1 := ⟨_, rfl⟩
  have s2 : ∀ i j, i ≠ 51 → S2 i j = S i j := fun i j hi => by rw [e2, sU_n (by omega), s1 i j hi]
  obtain ⟨S3, e3⟩ : ∃ z, z = sU S2 51 2 (qs g).2.1 := ⟨_, rfl⟩
  have s3 : ∀ i j, i ≠ 51 → S3 i j = S i j := fun i j hi => by rw [e3, sU_n (by omega), s2 i j hi]
  obtain ⟨S4, e4⟩ : ∃ z, z = sU S3 51 3 (qs g).2.2.1 := ⟨_, rfl⟩
  have s4 : ∀ i j, i ≠ 51 → S4 i j = S i j := fun i j hi => by rw [e4, sU_n (by omega), s3 i j hi]
  obtain ⟨S5, e5⟩ : ∃ z, z = sU S4 51 4 (qs g).2.2.2 := ⟨_, rfl⟩
  have s5 : ∀ i j, i ≠ 51 → S5 i j = S i j := fun i j hi => by rw [e5, sU_n (by omega), s4 i j hi]
  obtain ⟨S6, e6⟩ : ∃ z, z = sU S5 51 5 (nI h) := ⟨_, rfl⟩
  have s6 : ∀ i j, i ≠ 51 → S6 i j = S i j := fun i j hi => by rw [e6, sU_n (by omega), s5 i j hi]
  have h65 : S6 51 5 = nI h := by rw [e6, sU_s]
  have hw : fX9_wetOf N T (nI h) S6 = some (wetS (tnw Z) (S6 (T + 9)) h, S6) := x_wetOf (by rw [s6 T 10 (by omega)]; exact (c1 0 10 (by omega) (by omega)).trans Zk.2.2.1.1) Zk.2.2.1.2.1 hb
  refine ⟨sU (sU S6 51 6 (wetS (tnw Z) (S6 (T + 9)) h)) 51 7 d, ?_, ⟨?_, ?_, ?_, ?_, ?_, ?_, sU_s⟩, fun i j hij => ?_, ?_⟩
  · unfold fX10_begin fX10_begin_b0
    rw [bnd_t (x_isGuild t5 (by omega)), inb_t hg (by omega)]
    show fX10_begin_b9 N T nd (nI g) S = _
    unfold fX10_begin_b9
    dsimp only [lt]
    rw [hgc, chk_t hin, c1 5 g (by omega) (by omega), ← e1, chk_t hin, s1 (nd + 1) g (by omega), g1, ← e2, chk_t hin, s2 (nd + 2) g (by omega), g2, ← e3, chk_t hin, s3 (nd + 3) g (by omega), g3, ← e4, chk_t hin, s4 (nd + 4) g (by omega), g4, ← e5, s5 nd 0 (by omega), c2, ← e6, h65, bnd_t hw]
    dsimp only
    rw [sU_n (i := nd) (by omega), s6 nd 1 (by omega), c3]
  · rw [sU_n (by omega), sU_n (by omega), e6, sU_n (by omega), e5, sU_n (by omega), e4, sU_n (by omega), e3, sU_n (by omega), e2, sU_n (by omega), e1, sU_s]
  · rw [sU_n (by omega), sU_n (by omega), e6, sU_n (by omega), e5, sU_n (by omega), e4, sU_n (by omega), e3, sU_n (by omega), e2, sU_s]
  · rw [sU_n (by omega), sU_n (by omega), e6, sU_n (by omega), e5, sU_n (by omega), e4, sU_n (by omega), e3, sU_s]
  · rw [sU_n (by omega), sU_n (by omega), e6, sU_n (by omega), e5, sU_n (by omega), e4, sU_s]
  · rw [sU_n (by omega), sU_n (by omega), e6, sU_n (by omega), e5, sU_s]
  · rw [sU_n (by omega), sU_n (by omega), e6, sU_s]
  · have h51 : i ≠ 51 := fun q => by rw [q] at hij; cases hij
    rw [sU_n (by omega), sU_n (by omega), s6 i j h51]
  · rw [sU_n (by omega), sU_s]
    unfold wetZ
    rw [show S6 (T + 9) = Z 9 from funext fun j => (s6 (T + 9) j (by omega)).trans (c1 9 j (by omega) (by omega))]
theorem x_begin (hnd : nd = 21 ∨ nd = 46) (Zk : tOK Z) (C : cSit nd Z S h d qs) (hg : g < tn1 Z) (hb : h < 2 ^ 31) : ∃ S', fX10_begin N (xtw S) nd (nI g) S = some (0, S') ∧ wkA S' (Z 5 g) d (nI h) (qs g) ∧ oSame xWk S S' := by
  obtain ⟨S', a, b, c, -⟩ := x_begin6 (N := N) hnd Zk C hg hb
  exact ⟨S', a, b, c⟩
end
section
variable {N h T : Nat} {Z S : gS} {d e : Int32} {q : qT}
theorem x_wetZ (Zk : tOK Z) (hx : tXz T Z S) (hb : h < 2 ^ 31) : fX9_wetOf N T (nI h) S = some (wetZ Z h, S) := by
  rw [x_wetOf (S := S) (T := T) (n := tnw Z) ((hx 0 10 (by omega) (by omega)).trans Zk.2.2.1.1) Zk.2.2.1.2.1 hb]
  unfold wetZ
  rw [show S (T + 9) = Z 9 from funext fun j => hx 9 j (by omega) (by omega)]
theorem x_passHours {n : Nat} (hT : T = 72 ∨ T = 4) (Zk : tOK Z) (hx : tXz T Z S) (hq : qOK (tn0 Z) q) (he : eOK e) (W : wkA S e d (nI h) q) (hb : h + n < 2 ^ 30) (hn : n < 700) (hN : 700 < N) : ∃ S', fX10_passHours N T (nI n) S = some (0, S') ∧ wkA S' e d (nI (h + n)) (trj Z e d (wetZ Z) h q n) ∧ oSame xWk S S' := by
  have main : Gv (fX10_passHours_h2 N N T (nI n) 0 S) (fun r => r.1 = 0 ∧ wkA r.2 e d (nI (h + n)) (trj Z e d (wetZ Z) h q n) ∧ oSame xWk S r.2) := by
    refine loopG (fun f k S => fX10_passHours_h2 N f T (nI n) (nI k) S) (fun k S' => wkA S' e d (nI (h + k)) (trj Z e d (wetZ Z) h q k) ∧ oSame xWk S S') _ n ?_ ?_ n 0 S N (by omega) ⟨W, oSame.rf⟩ (by omega)
    · rintro f S1 ⟨i1, i2⟩
      show Gv (fX10_passHours_b2 N _ T (nI n) (nI n) S1) _
      unfold fX10_passHours_b2
      rw [if_pos (nI_le (Nat.le_refl _) (by omega))]
      exact ⟨(0, S1), rfl, rfl, i1, i2⟩
    · rintro f k S1 hk ⟨i1, i2⟩
      refine Or.inr ?_
      obtain ⟨S2, r1, r2, r3⟩ := x_passHour (N := N) (we := wetZ Z (h + k)) hT Zk (hx.on hT i2) (trj_ok hq he k) he i1 hN
      refine ⟨S2, ⟨?_, i2.tr r3⟩, ?_⟩
      · rw [nI_1] at r2
        exact r2
      · show fX10_passHours_b2 N (fX10_passHours_h2 N f) T (nI n) (nI k) S1 = _
        unfold fX10_passHours_b2
        rw [if_neg (nI_ge hk (by omega))]
        unfold fX10_passHours_b7
        rw [i1.2.2.2.2.2.1, bnd_t (x_wetZ Zk (hx.on hT i2) (by omega))]
        dsimp only
        rw [bnd_t r1, nI_1]
  obtain ⟨⟨v, S'⟩, r1, r2, r3⟩ := main
  dsimp only at r2 r3
  subst r2
  exact ⟨S', r1, r3⟩
end
end

/-! part 48.aquest -/
section
/-! questions: their frame on both sides -/
theorem JJ.sit {SX SM : gS} (hJ : JJ SX SM) : ∃ (Z : gS) (h : Nat) (qs : Nat → qT), tOK Z ∧ h ≤ 999 ∧ cSit 21 Z SX h (SX 21 1) qs ∧ mSit Z SM h (SX 21 1) (Z 5) qs ∧ qsOK Z (Z 5) qs ∧ SM 99 41 = -1 ∧ ∀ n0 n1, jTown n0 n1 (xtw SX) SX SM → n0 = tn0 Z ∧ n1 = tn1 Z := by
  obtain ⟨n0, n1, hT, hN, hI, hP, hM⟩ := hJ
  obtain ⟨⟨a1, a2, a3⟩, ⟨b1, b2, b3⟩, ⟨w, w1, w2, w3, w4⟩, ⟨b, d1, d2, d3⟩, hg, hgr, ⟨np, p1, p2, p3, p4, p5⟩, ⟨nc, c1, c2, c3, c4, c5⟩⟩ := hT
  obtain ⟨⟨⟨h, e1, e2, e3⟩, e4, e5, e6, e7⟩, -⟩ := hN
  obtain ⟨Z, hZ⟩ : ∃ z : gS, z = fun i j => SX (xtw SX + i) j := ⟨_, rfl⟩
  have z : ∀ i j, Z i j = SX (xtw SX + i) j := fun i j => by rw [hZ]
  have t0 : tn0 Z = n0 := by unfold tn0; rw [z 0 0, show SX (xtw SX + 0) 0 = nI n0 from a1, nI_clamp (by omega)]
  have t1 : tn1 Z = n1 := by unfold tn1; rw [z 0 5, show SX (xtw SX + 0) 5 = nI n1 from b1, nI_clamp (by omega)]
  have tw : tnw Z = w := by unfold tnw; rw [z 0 10, show SX (xtw SX + 0) 10 = nI w from w2, nI_clamp (by omega)]
  have tb : tnb Z = b := by unfold tnb; rw [z 0 12, show SX (xtw SX + 0) 12 = nI b from d2, nI_clamp (by omega)]
  have tp : tnp Z = np := by unfold tnp; rw [z 10 3, p2, nI_clamp (by omega)]
  have tc : tnc Z = nc := by unfold tnc; rw [z 13 3, c2, nI_clamp (by omega)]
  have z11 : Z 11 = SX (xtw SX + 10 + 1) := funext fun j => z 11 j
  have z14 : Z 14 = SX (xtw SX + 13 + 1) := funext fun j => z 14 j
  refine ⟨Z, h, fun g => (SM 32 g, SM 33 g, SM 34 g, SM 35 g), ?_, e1, ?_, ?_, ?_, hM.2.1, fun m0 m1 hT' => ?_⟩
  · refine ⟨⟨?_, ?_⟩, ⟨?_, ?_⟩, ⟨?_, ?_, ?_⟩, ⟨?_, ?_⟩, ?_, ?_, ⟨?_, ?_, ?_⟩, ?_, ?_, ?_⟩
    · rw [t0, z 0 0]; exact a1
    · rw [t0]; exact a3
    · rw [t1, z 0 5]; exact b1
    · rw [t1]; exact b3
    · rw [tw, z 0 10]; exact w2
    · rw [tw]; exact w1
    · intro i hi
      rw [tw] at hi
      obtain ⟨x, x1, x2, -⟩ := w4 i hi
      exact ⟨x, x1, by rw [z 9 i]; exact x2⟩
    · rw [tb, z 0 12]; exact d2
    · rw [tb]; exact d1
    · intro k hk
      rw [t0] at hk
      obtain ⟨⟨x, x1, x2, x3, -⟩, ⟨y, y1, y2, -⟩, ⟨u, u1, u2, -⟩, ⟨v, v1, v2, -⟩⟩ := hg k hk
      refine ⟨⟨x, x1, x2, by rw [z 1 k]; exact x3⟩, ⟨y, y1, by rw [z 2 k]; exact y2⟩, ⟨u, u1, by rw [z 3 k]; exact u2⟩, ?_⟩
      rw [z 4 k, v2]
      rcases (show v = 0 ∨ v = 1 by omega) with rfl | rfl
      · exact Or.inl rfl
      · exact Or.inr rfl
    · intro g hg
      rw [t1] at hg
      obtain ⟨x, x1, x2, -⟩ := hgr g hg
      exact ⟨x, x1, by rw [z 5 g]; exact x2⟩
    · rw [tp, z 10 3]; exact p2
    · rw [tp]; exact p1
    · rw [tp, z11]; exact p5
    · rw [tc, z 13 3]; exact c2
    · rw [tc]; exact c1
    · rw [tc, z14]; exact c5
  · refine ⟨fun i j _ _ => (z i j).symm, e2, rfl, fun g hg => ?_⟩
    rw [t1] at hg
    exact e5 g hg
  · refine ⟨⟨?_, ?_, ?_, ?_, ?_, ?_, fun i hi => ?_, fun k hk => ?_, fun i hi => ?_, fun i hi => ?_⟩, fun g hg => ?_, e3, e4.symm, fun g hg => ⟨rfl, rfl, rfl, rfl⟩⟩
    · rw [t0]; exact a2
    · rw [t1]; exact b2
    · rw [tb]; exact d3
    · rw [tw]; exact w3
    · rw [tp]; exact p3
    · rw [tc]; exact c3
    · rw [tw] at hi
      obtain ⟨x, x1, x2, x3⟩ := w4 i hi
      rw [z 9 i, x2, x3]
    · rw [t0] at hk
      obtain ⟨⟨x, x1, x2, x3, x4⟩, ⟨y, y1, y2, y3⟩, ⟨u, u1, u2, u3⟩, ⟨v, v1, v2, v3⟩⟩ := hg k hk
      rw [z 1 k, z 2 k, z 3 k, z 4 k, x3, x4, y2, y3, u2, u3, v2, v3]
      exact ⟨rfl, rfl, rfl, rfl⟩
    · rw [tp] at hi
      rw [z11]
      exact p4 i hi
    · rw [tc] at hi
      rw [z14]
      exact c4 i hi
    · rw [t1] at hg
      obtain ⟨x, x1, x2, x3⟩ := hgr g hg
      rw [z 5 g, x2, x3]
  · refine ⟨fun g hg => ?_, fun g g' hg hg' => ?_, fun g hg => ?_⟩
    · rw [t1] at hg
      rw [t0]
      exact e6 g hg
    · rw [t1] at hg hg'
      exact e7 g g' hg hg'
    · rw [t1] at hg
      obtain ⟨x, x1, x2, x3⟩ := hgr g hg
      exact ⟨x, x1, by rw [z 5 g]; exact x2⟩
  · obtain ⟨⟨a1', -, a3'⟩, ⟨b1', -, b3'⟩, -⟩ := hT'
    rw [t0, t1]
    exact ⟨(nI_eq (by omega) (by omega)).mp (a1'.symm.trans a1), (nI_eq (by omega) (by omega)).mp (b1'.symm.trans b1)⟩
/-! the reference's row of what is so: packed and unpacked -/
noncomputable def mPk (i j : Nat) : Bool := (32 ≤ i && i ≤ 35 && j < 6) || (i == 99 && (j == 37 || j == 38))
theorem mPk_t {i j : Nat} : mPk i j = true ↔ (32 ≤ i ∧ i ≤ 35 ∧ j < 6) ∨ (i = 99 ∧ (j = 37 ∨ j = 38)) := by
  unfold mPk
  simp only [Bool.or_eq_true, Bool.and_eq_true, beq_iff_eq, decide_eq_true_iff, and_assoc]
theorem q_pk {N nd : Nat} {S1 : gS} (hnd : nd = 46 ∨ nd = 51) (hN : 700 < N) : ∃ S2, fX12_pack N nd 0 S1 = some (0, S2) ∧ (∀ i j, i ≠ nd → S2 i j = S1 i j) ∧ ∀ S, (∀ j, S nd j = S2 nd j) → ∃ S4, fX12_unpack N nd 0 S = some (0, S4) ∧ ∀ i j, S4 i j = if mPk i j = true then S1 i j else S i j := by
  have hm : mN nd = 26 := by rcases hnd with rfl | rfl <;> rfl
  obtain ⟨S2, p1, p2, p3⟩ := m_pack (N := N) (nd := nd) (a := 0) (S := S1) (by omega) (by omega) (by omega) (by omega)
  refine ⟨S2, p1, fun i j h => p2 i j (by omega), fun S hS => ?_⟩
  obtain ⟨S4, u1, u2, u3⟩ := m_unpack (N := N) (nd := nd) (a := 0) (S := S) (by omega) (by omega) (by omega) (by omega)
  refine ⟨S4, u1, fun i j => ?_⟩
  by_cases h : mPk i j = true
  · rw [if_pos h]
    rcases mPk_t.mp h with ⟨h1, h2, h3⟩ | ⟨rfl, rfl | rfl⟩
    · obtain ⟨q1, q2, q3, q4⟩ := p3.2.2 j h3
      obtain ⟨r1, r2, r3, r4⟩ := u3.2.2 j h3
      rcases (show i = 32 ∨ i = 33 ∨ i = 34 ∨ i = 35 by omega) with rfl | rfl | rfl | rfl
      · rw [← r1, hS, q1]
      · rw [← r2, hS, q2]
      · rw [← r3, hS, q3]
      · rw [← r4, hS, q4]
    · rw [← u3.1, hS, p3.1]
    · rw [← u3.2.1, hS, p3.2.1]
  · rw [if_neg h]
    have h' := mt mPk_t.mpr h
    exact u2 i j (fun q => h' (Or.inl q)) (fun q => h' (Or.inr q))
noncomputable def mQ (i j : Nat) : Bool := mScr i j || mPk i j
theorem mQ_back {S1 S S4 : gS} (s : oSame mQ S1 S) (u : ∀ i j, S4 i j = if mPk i j = true then S1 i j else S i j) : mSame S1 S4 := by
  intro i j h
  rw [u i j]
  by_cases h1 : mPk i j = true
  · rw [if_pos h1]
  · rw [if_neg h1]
    refine s i j ?_
    unfold mQ
    rw [h, Bool.not_eq_true _ |>.mp h1]
    rfl
theorem oSame.q {S S' : gS} (s : oSame mHo S S') : oSame mQ S S' := by
  intro i j h
  refine s i j ?_
  cases hh : mHo i j with
  | false => rfl
  | true =>
    exfalso
    unfold mQ at h
    rw [Bool.or_eq_false_iff] at h
    have h2 := fun q => (Bool.not_eq_true _ |>.mpr h.2) (mPk_t.mpr q)
    have h1 := h.1
    unfold mHo at hh
    simp only [Bool.or_eq_true, Bool.and_eq_true, beq_iff_eq, decide_eq_true_iff] at hh
    rcases hh with ((rfl | rfl) | h3) | ⟨rfl, (rfl | rfl) | rfl⟩
    · cases h1
    · cases h1
    · exact h2 (Or.inl ⟨h3.1.1, h3.1.2, h3.2⟩)
    · exact h2 (Or.inr ⟨rfl, Or.inl rfl⟩)
    · cases h1
    · cases h1
theorem mSame.q {S S' : gS} (s : mSame S S') : oSame mQ S S' := fun i j h => s i j (by
  unfold mQ at h
  rw [Bool.or_eq_false_iff] at h
  exact h.1)
theorem mSit.on {Z S S' : gS} {h : Nat} {d : Int32} {e : Nat → Int32} {qs : Nat → qT} (M : mSit Z S h d e qs) (s : mSame S S') : mSit Z S' h d e qs := by
  obtain ⟨m1, m2, m3, m4, m5⟩ := M
  refine ⟨m1.on (fun i j h1 h2 => s i j ?_), fun g hg => by rw [s 18 g rfl]; exact m2 g hg, by rw [s 99 37 rfl]; exact m3, by rw [s 99 38 rfl]; exact m4, fun g hg => ?_⟩
  · rcases (show i = 5 ∨ i = 6 ∨ i = 7 ∨ i = 8 ∨ i = 9 ∨ i = 10 ∨ i = 11 ∨ i = 12 ∨ i = 13 ∨ i = 14 ∨ i = 15 ∨ i = 16 by omega) with rfl | rfl | rfl | rfl | rfl | rfl | rfl | rfl | rfl | rfl | rfl | rfl <;> rfl
  · rw [s 32 g rfl, s 33 g rfl, s 34 g rfl, s 35 g rfl]
    exact m5 g hg
theorem cSit.sm {Z S S' : gS} {h : Nat} {d : Int32} {qs : Nat → qT} (C : cSit 21 Z S h d qs) (s : xSame S S') : cSit 21 Z S' h d qs := by
  obtain ⟨c1, c2, c3, c4⟩ := C
  have hT : xtw S' = xtw S := by
    unfold xtw
    rw [s 0 7 rfl]
  refine ⟨?_, by rw [s 21 0 rfl]; exact c2, by rw [s 21 1 rfl]; exact c3, fun g hg => ?_⟩
  · rw [hT]
    intro i j h1 h2
    rw [s (xtw S + i) j ?_]
    · exact c1 i j h1 h2
    · rcases xtw_cases (S := S) with hT | hT
      · rw [hT]
        rcases (show i = 0 ∨ i = 1 ∨ i = 2 ∨ i = 3 ∨ i = 4 ∨ i = 5 ∨ i = 6 ∨ i = 7 ∨ i = 8 ∨ i = 9 ∨ i = 10 ∨ i = 11 ∨ i = 13 ∨ i = 14 by omega) with rfl | rfl | rfl | rfl | rfl | rfl | rfl | rfl | rfl | rfl | rfl | rfl | rfl | rfl <;> rfl
      · rw [hT]
        rcases (show i = 0 ∨ i = 1 ∨ i = 2 ∨ i = 3 ∨ i = 4 ∨ i = 5 ∨ i = 6 ∨ i = 7 ∨ i = 8 ∨ i = 9 ∨ i = 10 ∨ i = 11 ∨ i = 13 ∨ i = 14 by omega) with rfl | rfl | rfl | rfl | rfl | rfl | rfl | rfl | rfl | rfl | rfl | rfl | rfl | rfl <;> rfl
  · show S' 22 g = _ ∧ S' 23 g = _ ∧ S' 24 g = _ ∧ S' 25 g = _
    rw [s 22 g rfl, s 23 g rfl, s 24 g rfl, s 25 g rfl]
    exact c4 g hg
/-! answers -/
theorem stFl {co : Nat → Int32} {ok : Nat → Prop} {SX SM : gS} {FX : Nat → Option tR} {FM : Nat → Option (Int32 × gS)} (N M t : Nat) (hJ : JJ SX SM) (ht : t ≠ 0) (hok : ok t) (h1 : FX N = some (t, 0, SX)) (h2 : FM M = some (0, sU (sU SM 99 4 0) 99 4 (co t))) : StpT JJ co ok FX FM :=
  stp_no (v := 0) (w := 0) N M t (hJ.same xSame.rf ((code_same SM 0).tr (code_same _ (co t)))) ht hok h1 h2 (code_at _ _)
theorem stSu {co : Nat → Int32} {ok : Nat → Prop} {SX SM : gS} {FX : Nat → Option tR} {FM : Nat → Option (Int32 × gS)} (N M : Nat) (v : Int32) (hJ : JJ SX SM) (hco : co 0 = 0) (hok : ok 0) (h1 : Gv (FX N) (fun r => r.1 = 0 ∧ r.2.1 = v ∧ xSame SX r.2.2)) (h2 : Gv (FM M) (fun r => r.1 = v ∧ mSame (sU SM 99 4 0) r.2 ∧ r.2 99 4 = 0)) : StpT JJ co ok FX FM := by
  obtain ⟨⟨t, w, SX'⟩, a1, a2, a3, a4⟩ := h1
  obtain ⟨⟨u, SM'⟩, b1, b2, b3, b4⟩ := h2
  dsimp only at a2 a3 a4 b2 b3 b4
  subst a2 a3 b2
  exact stp_ok (SX := SX) (SM := SM) N M (hJ.same a4 ((code_same SM 0).tr b3)) hco hok a1 b1 b4
section
variable {N n : Nat} {S : gS} {x a b : Int32} {f : Nat × Int32 × gS → Option tR}
theorem ngT (h : S (xtw S) 5 = nI n) (hn : n < 2 ^ 31) (hi : inb x n = true) : bnx (fX11_needGuild N x S) f = f (0, 0, S) := by
  rw [bnx_t (x_needGuild h hn) (by rw [hi]; rfl), hi]
  rfl
theorem ngF (h : S (xtw S) 5 = nI n) (hn : n < 2 ^ 31) (hi : inb x n = false) : bnx (fX11_needGuild N x S) f = some (1, 0, S) := by
  rw [bnx_x (x_needGuild h hn) (by rw [hi]; exact one_ne), hi]
  rfl
theorem nkT (h : S (xtw S) 0 = nI n) (hn : n < 2 ^ 31) (hi : inb x n = true) : bnx (fX11_needGrotto N x S) f = f (0, 0, S) := by
  rw [bnx_t (x_needGrotto h hn) (by rw [hi]; rfl), hi]
  rfl
theorem nkF (h : S (xtw S) 0 = nI n) (hn : n < 2 ^ 31) (hi : inb x n = false) : bnx (fX11_needGrotto N x S) f = some (1, 0, S) := by
  rw [bnx_x (x_needGrotto h hn) (by rw [hi]; exact one_ne), hi]
  rfl
theorem nwT (hi : wth x 0 a = true) : bnx (fX11_needWhat N x a S) f = f (0, 0, S) := by
  rw [bnx_t x_needWhat (by rw [hi]; rfl), hi]
  rfl
theorem nwF (hi : wth x 0 a = false) : bnx (fX11_needWhat N x a S) f = some (1, 0, S) := by
  rw [bnx_x x_needWhat (by rw [hi]; exact one_ne), hi]
  rfl
theorem niT (hi : wth x a b = true) : bnx (fX11_needWithin N x a b S) f = f (0, 0, S) := by
  rw [bnx_t x_needWithin (by rw [hi]; rfl), hi]
  rfl
theorem niF (hi : wth x a b = false) : bnx (fX11_needWithin N x a b S) f = some (2, 0, S) := by
  rw [bnx_x x_needWithin (by rw [hi]; exact two_ne), hi]
  rfl
end
/-- the reference's test of a choice of two -/
theorem w01F {x : Int32} (h : wth x 0 1 = false) : x < 0 ∨ (¬ x < 0 ∧ ¬ x ≤ 1) := by
  unfold wth at h
  rw [Bool.and_eq_false_iff, decide_eq_false_iff_not, decide_eq_false_iff_not] at h
  by_cases h0 : x < 0
  · exact Or.inl h0
  · rcases h with h | h
    · exact absurd (Int32.not_lt.mp h0) h
    · exact Or.inr ⟨h0, h⟩
theorem w01T {x : Int32} (h : wth x 0 1 = true) : ¬ x < 0 ∧ x ≤ 1 ∧ (x = 0 ∨ x = 1) := by
  obtain ⟨c, c1, c2, rfl⟩ := wth_of (a := 0) (b := 1) (by decide) (by decide) h
  rcases (show c = 0 ∨ c = 1 by omega) with rfl | rfl
  · exact ⟨by decide, by decide, Or.inl rfl⟩
  · exact ⟨by decide, by decide, Or.inr rfl⟩
end

/-! part 49.athen -/
section
/-! guild, then, first, dismissed -/
theorem pre {SX SM : gS} (hJ : JJ SX SM) : ∃ (S1 Z : gS) (h : Nat) (qs : Nat → qT), S1 = sU SM 99 4 0 ∧ S1 99 4 = 0 ∧ JJ SX S1 ∧ tOK Z ∧ h ≤ 999 ∧ cSit 21 Z SX h (SX 21 1) qs ∧ mSit Z S1 h (SX 21 1) (Z 5) qs ∧ qsOK Z (Z 5) qs ∧ S1 99 41 = -1 ∧ SX (xtw SX) 0 = nI (tn0 Z) ∧ SX (xtw SX) 5 = nI (tn1 Z) := by
  have hJ1 := hJ.same xSame.rf (code_same SM 0)
  obtain ⟨Z, h, qs, Zk, h9, C, M, K, w41, -⟩ := hJ1.sit
  exact ⟨_, Z, h, qs, rfl, code_at SM 0, hJ1, Zk, h9, C, M, K, w41, (C.1 0 0 (by omega) (by omega)).trans Zk.1.1, (C.1 0 5 (by omega) (by omega)).trans Zk.2.1.1⟩
theorem stSr {co : Nat → Int32} {ok : Nat → Prop} {SX SM : gS} {FX : Nat → Option tR} {FM : Nat → Option (Int32 × gS)} (N M : Nat) (A : Int32 → Prop) (uA : ∀ v v', A v → A v' → v = v') (hJ : JJ SX SM) (hco : co 0 = 0) (hok : ok 0) (h1 : Gv (FX N) (fun r => r.1 = 0 ∧ A r.2.1 ∧ xSame SX r.2.2)) (h2 : Gv (FM M) (fun r => A r.1 ∧ mSame (sU SM 99 4 0) r.2 ∧ r.2 99 4 = 0)) : StpT JJ co ok FX FM := by
  obtain ⟨⟨t, w, SX'⟩, a1, a2, a3, a4⟩ := h1
  refine stSu N M w hJ hco hok ⟨_, a1, a2, rfl, a4⟩ (h2.m (fun r hr => ⟨uA _ _ hr.1 a3, hr.2⟩))
def ansF (c : Nat → Bool) (n : Nat) (v : Int32) : Prop := (∃ k, k < n ∧ c k = true ∧ (∀ i, i < k → c i = false) ∧ v = nI (k + 1)) ∨ ((∀ i, i < n → c i = false) ∧ v = -1)
theorem ansF.u {c : Nat → Bool} {n : Nat} : ∀ v v', ansF c n v → ansF c n v' → v = v' := by
  rintro v v' (⟨k, a1, a2, a3, a4⟩ | ⟨a1, a2⟩) (⟨k', b1, b2, b3, b4⟩ | ⟨b1, b2⟩)
  · have : k = k' := by
      rcases Nat.lt_trichotomy k k' with h | h | h
      · rw [b3 k h] at a2; cases a2
      · exact h
      · rw [a3 k' h] at b2; cases b2
    rw [a4, b4, this]
  · rw [b1 k a1] at a2; cases a2
  · rw [a1 k' b1] at b2; cases b2
  · rw [a2, b2]
/-- the reference packs; what follows may go on and is put back -/
theorem q_go {Z S1 : gS} {h : Nat} {d : Int32} {e : Nat → Int32} {qs : Nat → qT} (M : mSit Z S1 h d e qs) (w41 : S1 99 41 = -1) (c0 : S1 99 4 = 0) : ∃ S2, fX12_pack 5000 46 0 S1 = some (0, S2) ∧ mSit Z S2 h d e qs ∧ S2 99 41 = -1 ∧ mSame S1 S2 ∧ S2 99 4 = 0 ∧ (∀ S, (∀ j, S 46 j = S2 46 j) → oSame mQ S1 S → ∃ S4, fX12_unpack 5000 46 0 S = some (0, S4) ∧ mSame S1 S4 ∧ S4 99 4 = S 99 4 ∧ ∀ i j, S4 i j = if mPk i j = true then S1 i j else S i j) ∧ (∀ S, oSame mHo S2 S → ∃ S4, fX12_unpack 5000 46 0 S = some (0, S4) ∧ mSame S1 S4 ∧ S4 99 4 = 0) := by
  obtain ⟨S2, k1, k2, k3⟩ := q_pk (N := 5000) (S1 := S1) (nd := 46) (Or.inl rfl) (by decide)
  have s2 : mSame S1 S2 := fun i j hij => k2 i j (fun q => by rw [q] at hij; cases hij)
  have A : ∀ S, (∀ j, S 46 j = S2 46 j) → oSame mQ S1 S → ∃ S4, fX12_unpack 5000 46 0 S = some (0, S4) ∧ mSame S1 S4 ∧ S4 99 4 = S 99 4 ∧ ∀ i j, S4 i j = if mPk i j = true then S1 i j else S i j := by
    intro S h46 s
    obtain ⟨S4, u1, u2⟩ := k3 S h46
    exact ⟨S4, u1, mQ_back s u2, by rw [u2 99 4]; rfl, u2⟩
  refine ⟨S2, k1, M.on s2, by rw [k2 99 41 (by omega)]; exact w41, s2, by rw [k2 99 4 (by omega)]; exact c0, A, fun S s => ?_⟩
  obtain ⟨S4, u1, u2, u3, -⟩ := A S (fun j => s 46 j rfl) (s2.q.tr s.q)
  exact ⟨S4, u1, u2, by rw [u3, s 99 4 rfl, k2 99 4 (by omega)]; exact c0⟩
theorem st_then : Lw_then JJ := by
  intro SX SM x1 x2 x3 hJ
  obtain ⟨S1, Z, h, qs, hS1, c0, hJ1, Zk, h9, C, M, K, w41, x0, x5⟩ := pre hJ
  have z6 := Zk.2.1.2
  have hF : fX12_then 5000 x1 x2 x3 SM = if iv (inb x1 (tn1 Z)) = 0 then fX12_then_b25 5000 S1 else fX12_then_b13 5000 x1 x2 x3 S1 := by
    unfold fX12_then fX12_then_b0
    dsimp only [lt]
    rw [← hS1, bnd_t (m_isGuild M.1.2.1 (by omega))]
  have hG : fX12_then_b13 5000 x1 x2 x3 S1 = if iv (wth x3 0 3) = 0 then fX12_then_b25 5000 S1 else fX12_then_b31 5000 x1 x2 x3 S1 := by
    unfold fX12_then_b13
    rw [bnd_t in_0_3]
  have hH : fX12_then_b31 5000 x1 x2 x3 S1 = if iv (wth x2 0 60) = 0 then fX12_then_b43 5000 S1 else fX12_then_b49 5000 x1 x2 x3 S1 := by
    unfold fX12_then_b31
    rw [bnd_t in_0_60]
  cases h1 : inb x1 (tn1 Z) with
  | false =>
    refine stFl 5000 5000 1 hJ one_ne (Or.inr (Or.inl rfl)) (ngF x5 (by omega) h1) ?_
    show fX12_then 5000 x1 x2 x3 SM = _
    rw [hF, h1, ← hS1]
    rfl
  | true =>
  cases h3 : wth x3 0 3 with
  | false =>
    refine stFl 5000 5000 1 hJ one_ne (Or.inr (Or.inl rfl)) ((ngT x5 (by omega) h1).trans (nwF h3)) ?_
    show fX12_then 5000 x1 x2 x3 SM = _
    rw [hF, h1, ← hS1]
    show fX12_then_b13 5000 x1 x2 x3 S1 = _
    rw [hG, h3]
    rfl
  | true =>
  cases h2 : wth x2 0 60 with
  | false =>
    refine stFl 5000 5000 2 hJ two_ne (Or.inr (Or.inr rfl)) (((ngT x5 (by omega) h1).trans (nwT h3)).trans (niF h2)) ?_
    show fX12_then 5000 x1 x2 x3 SM = _
    rw [hF, h1, ← hS1]
    show fX12_then_b13 5000 x1 x2 x3 S1 = _
    rw [hG, h3]
    show fX12_then_b31 5000 x1 x2 x3 S1 = _
    rw [hH, h2]
    rfl
  | true =>
  obtain ⟨g, hg, rfl⟩ := inb_of h1 (by omega)
  obtain ⟨c, -, c2, rfl⟩ := wth_of (a := 0) (b := 60) (by decide) (by decide) h2
  obtain ⟨y, -, y2, rfl⟩ := wth_of (a := 0) (b := 3) (by decide) (by decide) h3
  obtain ⟨X1, b1, b2, b3⟩ := x_begin (N := 5000) (Or.inl rfl) Zk C hg (by omega)
  obtain ⟨X2, p1, p2, p3⟩ := x_passHours (N := 5000) (n := c) xtw_cases Zk (C.1.on xtw_cases b3) (K.1 g hg) (K.2.2 g hg) b2 (by omega) (by omega) (by decide)
  obtain ⟨S2, k1, k2, k3, -, -, -, k4⟩ := q_go M w41 c0
  obtain ⟨S3, r1, r2, r3⟩ := m_goOn (N := 5000) (n := c) Zk K.h (by omega) (by decide) (by omega) k2 k3
  obtain ⟨S4, u1, u2, u3⟩ := k4 S3 r3
  obtain ⟨w1, w2, w3, w4⟩ := r2.2.2.2.2 g hg
  have hgc : (nI g).toNatClampNeg = g := nI_clamp (by omega)
  have hin : inb (nI g) 6 = true := inb_t (by omega) (by decide)
  have hX : fX11_then 5000 (nI g) (nI c) (nI y) SX = if nI y = 0 then fX11_then_b76 5000 X2 else if nI y = 1 then fX11_then_b84 5000 X2 else if nI y = 2 then fX11_then_b92 5000 X2 else fX11_then_b100 5000 X2 := by
    refine ((ngT x5 (by omega) h1).trans (nwT h3)).trans ((niT h2).trans ?_)
    dsimp only [lt]
    rw [bnd_t b1]
    dsimp only
    rw [xWk.tw b3, bnd_t p1]
  have hM : fX12_then 5000 (nI g) (nI c) (nI y) SM = if nI y = 0 then fX12_then_b67 5000 (nI g) S3 else fX12_then_b76 5000 (nI g) (nI y) S3 := by
    rw [hF, h1]
    show fX12_then_b13 5000 (nI g) (nI c) (nI y) S1 = _
    rw [hG, h3]
    show fX12_then_b31 5000 (nI g) (nI c) (nI y) S1 = _
    rw [hH, h2]
    show fX12_then_b49 5000 (nI g) (nI c) (nI y) S1 = _
    unfold fX12_then_b49
    rw [bnd_t k1]
    dsimp only
    rw [bnd_t r1]
  have fin : ∀ v, fX12_then_b110 5000 v S3 = some (v, S4) := fun v => by
    unfold fX12_then_b110
    rw [bnd_t u1]
  have hx := xWk.same (b3.tr p3)
  rcases (show y = 0 ∨ y = 1 ∨ y = 2 ∨ y = 3 by omega) with rfl | rfl | rfl | rfl
  · refine stSu 5000 5000 (trj Z (Z 5 g) (SX 21 1) (wetZ Z) h (qs g) c).1 hJ rfl (Or.inl rfl) ⟨(0, X2 51 1, X2), hX, rfl, p2.2.1, hx⟩ ⟨(_, S4), hM.trans ?_, w1, by rw [← hS1]; exact u2, u3⟩
    show fX12_then_b67 5000 (nI g) S3 = _
    unfold fX12_then_b67
    rw [chk_t hin, hgc, fin]
  · refine stSu 5000 5000 (trj Z (Z 5 g) (SX 21 1) (wetZ Z) h (qs g) c).2.1 hJ rfl (Or.inl rfl) ⟨(0, X2 51 2, X2), hX, rfl, p2.2.2.1, hx⟩ ⟨(_, S4), hM.trans ?_, w2, by rw [← hS1]; exact u2, u3⟩
    show fX12_then_b81 5000 (nI g) S3 = _
    unfold fX12_then_b81
    rw [chk_t hin, hgc, fin]
  · refine stSu 5000 5000 (trj Z (Z 5 g) (SX 21 1) (wetZ Z) h (qs g) c).2.2.1 hJ rfl (Or.inl rfl) ⟨(0, X2 51 3, X2), hX, rfl, p2.2.2.2.1, hx⟩ ⟨(_, S4), hM.trans ?_, w3, by rw [← hS1]; exact u2, u3⟩
    show fX12_then_b95 5000 (nI g) S3 = _
    unfold fX12_then_b95
    rw [chk_t hin, hgc, fin]
  · refine stSu 5000 5000 (trj Z (Z 5 g) (SX 21 1) (wetZ Z) h (qs g) c).2.2.2 hJ rfl (Or.inl rfl) ⟨(0, X2 51 4, X2), hX, rfl, p2.2.2.2.2.1, hx⟩ ⟨(_, S4), hM.trans ?_, w4, by rw [← hS1]; exact u2, u3⟩
    show fX12_then_b104 5000 (nI g) S3 = _
    unfold fX12_then_b104
    rw [chk_t hin, hgc, fin]
theorem st_guild : Lw_guild JJ := by
  intro SX SM x1 x2 hJ
  obtain ⟨S1, Z, h, qs, hS1, c0, hJ1, Zk, h9, C, M, K, w41, x0, x5⟩ := pre hJ
  have z6 := Zk.2.1.2
  have hF : fX12_guild 5000 x1 x2 SM = if iv (inb x1 (tn1 Z)) = 0 then fX12_guild_b13 5000 S1 else fX12_guild_b19 5000 x1 x2 S1 := by
    unfold fX12_guild fX12_guild_b0
    dsimp only [lt]
    rw [← hS1, bnd_t (m_isGuild M.1.2.1 (by omega))]
  cases h1 : inb x1 (tn1 Z) with
  | false =>
    refine stFl 5000 5000 1 hJ one_ne (Or.inr rfl) (ngF x5 (by omega) h1) ?_
    show fX12_guild 5000 x1 x2 SM = _
    rw [hF, h1, ← hS1]
    rfl
  | true =>
  obtain ⟨g, hg, rfl⟩ := inb_of h1 (by omega)
  have hgc : (nI g).toNatClampNeg = g := nI_clamp (by omega)
  have hin : inb (nI g) 6 = true := inb_t (by omega) (by decide)
  have hX : fX11_guild 5000 (nI g) x2 SX = if x2 = 0 then fX11_guild_b52 5000 (nI g) SX else if x2 = 1 then fX11_guild_b62 5000 (nI g) SX else if x2 = 2 then fX11_guild_b69 5000 (nI g) SX else if x2 = 3 then fX11_guild_b76 5000 (nI g) SX else if x2 = 4 then fX11_guild_b83 5000 (nI g) SX else if x2 = 5 then fX11_guild_b90 5000 (nI g) SX else fX11_guild_b96 5000 SX := ngT x5 (by omega) h1
  have hM : fX12_guild 5000 (nI g) x2 SM = fX12_guild_b19 5000 (nI g) x2 S1 := by
    rw [hF, h1]
    rfl
  obtain ⟨c1, c2, c3, c4⟩ := C.2.2.2 g hg
  obtain ⟨m1, m2, m3, m4⟩ := M.2.2.2.2 g hg
  have m18 := M.2.1 g hg
  have key : ∀ v, fX11_guild 5000 (nI g) x2 SX = some (0, v, SX) → fX12_guild_b19 5000 (nI g) x2 S1 = some (v, S1) → StpT JJ lcA okA (fun N => fX11_guild N (nI g) x2 SX) (fun M => fX12_guild M (nI g) x2 SM) := fun v a b => stSu 5000 5000 v hJ rfl (Or.inl rfl) ⟨_, a, rfl, rfl, xSame.rf⟩ ⟨_, hM.trans b, rfl, by rw [← hS1]; exact mSame.rf, c0⟩
  by_cases h0 : x2 = 0
  · subst h0
    refine key (Z 5 g) ?_ ?_
    · rw [hX]
      show fX11_guild_b52 5000 (nI g) SX = _
      unfold fX11_guild_b52
      dsimp only [lt]
      rw [chk_t hin, hgc, C.1 5 g (by omega) (by omega)]
    · show fX12_guild_b60 5000 (nI g) S1 = _
      unfold fX12_guild_b60
      rw [chk_t hin, hgc, m18]
  by_cases h01 : x2 = 1
  · subst h01
    refine key (qs g).1 ?_ ?_
    · rw [hX]
      show fX11_guild_b62 5000 (nI g) SX = _
      unfold fX11_guild_b62
      rw [chk_t hin, hgc, show SX 22 g = _ from c1]
    · show fX12_guild_b67 5000 (nI g) S1 = _
      unfold fX12_guild_b67
      rw [chk_t hin, hgc, m1]
  by_cases h02 : x2 = 2
  · subst h02
    refine key (qs g).2.1 ?_ ?_
    · rw [hX]
      show fX11_guild_b69 5000 (nI g) SX = _
      unfold fX11_guild_b69
      rw [chk_t hin, hgc, show SX 23 g = _ from c2]
    · show fX12_guild_b74 5000 (nI g) S1 = _
      unfold fX12_guild_b74
      rw [chk_t hin, hgc, m2]
  by_cases h03 : x2 = 3
  · subst h03
    refine key (qs g).2.2.1 ?_ ?_
    · rw [hX]
      show fX11_guild_b76 5000 (nI g) SX = _
      unfold fX11_guild_b76
      rw [chk_t hin, hgc, show SX 24 g = _ from c3]
    · show fX12_guild_b81 5000 (nI g) S1 = _
      unfold fX12_guild_b81
      rw [chk_t hin, hgc, m3]
  by_cases h04 : x2 = 4
  · subst h04
    refine key (qs g).2.2.2 ?_ ?_
    · rw [hX]
      show fX11_guild_b83 5000 (nI g) SX = _
      unfold fX11_guild_b83
      rw [chk_t hin, hgc, show SX 25 g = _ from c4]
    · show fX12_guild_b88 5000 (nI g) S1 = _
      unfold fX12_guild_b88
      rw [chk_t hin, hgc, m4]
  by_cases h05 : x2 = 5
  · subst h05
    obtain ⟨X1, b1, b2, b3, b6⟩ := x_begin6 (N := 5000) (Or.inl rfl) Zk C hg (by omega)
    have hX5 : fX11_guild 5000 (nI g) 5 SX = bnd (fX10_cost 5000 (xtw SX) X1) (fun q2 => some (0, q2.1, q2.2)) := by
      rw [hX]
      show fX11_guild_b90 5000 (nI g) SX = _
      unfold fX11_guild_b90 fX11_costNow fX11_costNow_b0
      dsimp only [lt]
      rw [bnd_t b1]
      dsimp only
      rw [xWk.tw b3]
      cases fX10_cost 5000 (xtw SX) X1 <;> rfl
    have hM5 : fX12_guild 5000 (nI g) 5 SM = if (qs g).2.2.2 = -1 then fX12_guild_b105 5000 S1 else fX12_guild_b109 5000 (nI g) S1 := by
      rw [hM]
      show fX12_guild_b95 5000 (nI g) S1 = _
      unfold fX12_guild_b95
      rw [chk_t hin, hgc, m4]
    rcases (K.1 g hg).2.2.2 with hh | ⟨k, hk, hh⟩
    · refine stSu 5000 5000 0 hJ rfl (Or.inl rfl) ⟨(0, 0, X1), ?_, rfl, rfl, xWk.same b3⟩ ⟨(0, S1), ?_, rfl, by rw [← hS1]; exact mSame.rf, c0⟩
      · show fX11_guild 5000 (nI g) 5 SX = _
        rw [hX5, bnd_t (x_cost0 Zk (C.1.on xtw_cases b3) (by rw [b2.2.2.2.2.1]; exact hh))]
      · show fX12_guild 5000 (nI g) 5 SM = _
        rw [hM5, if_pos hh]
        rfl
    · have z8 := Zk.1.2
      obtain ⟨r, hr⟩ := x_cost (N := 5000) xtw_cases Zk (C.1.on xtw_cases b3) hk (by rw [b2.2.2.2.2.1]; exact hh) (by decide)
      obtain ⟨S2, r1, r2⟩ := m_costsOf (N := 5000) (g := g) Zk M.1 (by omega) hk (by rw [m4]; exact hh) M.2.2.1 (by omega) (Or.inr ⟨w41, rfl⟩) (by decide)
      obtain ⟨v0, v1, v2, v3, v4, v5, v7⟩ := b2
      rw [v0, v1, v2, v5, b6] at hr
      rw [m1, m2, M.2.2.1, m18] at r1
      have s15 : oSame xWk SX (sN X1 (xtw SX + 15) r) := b3.upN (fun j => by rcases xtw_cases (S := SX) with q | q <;> rw [q] <;> rfl)
      refine stSu 5000 5000 (coZ Z k (qs g).1 (qs g).2.1 (wetZ Z h) (nI h) (Z 5 g)) hJ rfl (Or.inl rfl) ⟨(0, coZ Z k (qs g).1 (qs g).2.1 (wetZ Z h) (nI h) (Z 5 g), sN X1 (xtw SX + 15) r), ?_, rfl, rfl, xWk.same s15⟩ ⟨(coZ Z k (qs g).1 (qs g).2.1 (wetZ Z h) (nI h) (Z 5 g), S2), ?_, rfl, ?_, ?_⟩
      · show fX11_guild 5000 (nI g) 5 SX = _
        rw [hX5, bnd_t hr]
      · show fX12_guild 5000 (nI g) 5 SM = _
        rw [hM5, if_neg (by rw [hh]; exact nI_nem (by omega))]
        unfold fX12_guild_b109
        rw [bnd_t r1]
        rfl
      · rw [← hS1]
        intro i j hij
        exact r2 i j (mRu_f (fun q => by rw [q] at hij; cases hij) (fun q => by rw [q] at hij; cases hij))
      · dsimp only
        rw [r2 99 4 rfl]
        exact c0
  refine stFl 5000 5000 1 hJ one_ne (Or.inr rfl) ?_ ?_
  · show fX11_guild 5000 (nI g) x2 SX = _
    rw [hX, if_neg h0, if_neg h01, if_neg h02, if_neg h03, if_neg h04, if_neg h05]
    rfl
  · show fX12_guild 5000 (nI g) x2 SM = _
    rw [hM]
    unfold fX12_guild_b19
    rw [if_neg h0, if_neg h01, if_neg h02, if_neg h03, if_neg h04, if_neg h05, ← hS1]
    rfl
end

/-! part 50.afirst -/
section
/-! first, dismissed -/
theorem silent_bt {c : Nat → Bool} {n g : Nat} (hn : n ≤ 6) (hg : g < n) : bt (drB c n 0 0) (nI g) = c g := by
  rw [bt_bb (by omega), bb_drB (by omega) n 0 0 (by omega), bb_0, decide_eq_true (p := 0 ≤ g) (by omega), decide_eq_true (p := g < 0 + n) (by omega)]
  simp
theorem x_first_h {Z SX S : gS} {h g : Nat} {d : Int32} {q : qT} (Zk : tOK Z) (hx : tXz (xtw SX) Z SX) (h9 : h ≤ 999) (hq : qOK (tn0 Z) q) (he : eOK (Z 5 g)) (W : wkA S (Z 5 g) d (nI h) q) (s : oSame xWk SX S) : Gv (fX11_first_h26 5000 5000 1 S) (fun r => r.1 = 0 ∧ ansF (trB Z (Z 5 g) d (wetZ Z) h q) 60 r.2.1 ∧ xSame SX r.2.2) := by
  refine loopG (fun f k S => fX11_first_h26 5000 f (nI (k + 1)) S) (fun k S' => wkA S' (Z 5 g) d (nI (h + k)) (trj Z (Z 5 g) d (wetZ Z) h q k) ∧ oSame xWk SX S' ∧ ∀ i, i < k → trB Z (Z 5 g) d (wetZ Z) h q i = false) _ 60 ?_ ?_ 60 0 S 5000 (by omega) ⟨W, s, fun i hi => by omega⟩ (by omega)
  · rintro f S1 ⟨i1, i2, i3⟩
    exact ⟨(0, -1, S1), rfl, rfl, Or.inr ⟨i3, rfl⟩, xWk.same i2⟩
  · rintro f k S1 hk ⟨i1, i2, i3⟩
    have hT : tXz (xtw SX) Z S1 := hx.on xtw_cases i2
    obtain ⟨S2, r1, r2, r3⟩ := x_passHour (N := 5000) (we := wetZ Z (h + k)) xtw_cases Zk hT (trj_ok hq he k) he i1 (by decide)
    have hF : fX11_first_h26 5000 (f + 1) (nI (k + 1)) S1 = if iv (trB Z (Z 5 g) d (wetZ Z) h q k) = 0 then fX11_first_b62 5000 (fX11_first_h26 5000 f) (nI (k + 1)) S2 else fX11_first_b60 5000 (nI (k + 1)) S2 := by
      show fX11_first_b26 5000 (fX11_first_h26 5000 f) (nI (k + 1)) S1 = _
      unfold fX11_first_b26
      rw [if_neg (show ¬ (60 : Int32) < nI (k + 1) from nI_nlt (a := 60) (by omega) (by decide))]
      unfold fX11_first_b32
      dsimp only [lt]
      rw [xWk.tw i2, i1.2.2.2.2.2.1, bnd_t (x_wetZ Zk hT (by omega))]
      dsimp only
      rw [bnd_t r1]
      rfl
    cases hb : trB Z (Z 5 g) d (wetZ Z) h q k with
    | false =>
      refine Or.inr ⟨S2, ⟨?_, i2.tr r3, fun i hi => ?_⟩, ?_⟩
      · rw [nI_1] at r2
        exact r2
      · by_cases hik : i = k
        · rw [hik]; exact hb
        · exact i3 i (by omega)
      · show fX11_first_h26 5000 (f + 1) (nI (k + 1)) S1 = _
        rw [hF, hb]
        show fX11_first_b62 5000 (fX11_first_h26 5000 f) (nI (k + 1)) S2 = _
        unfold fX11_first_b62
        rw [nI_1]
    | true =>
      refine Or.inl ⟨(0, nI (k + 1), S2), ?_, rfl, Or.inl ⟨k, hk, hb, i3, rfl⟩, xWk.same (i2.tr r3)⟩
      show fX11_first_h26 5000 (f + 1) (nI (k + 1)) S1 = _
      rw [hF, hb]
      rfl
theorem m_first_h {Z S1 S2 : gS} {h g : Nat} {d : Int32} {e : Nat → Int32} {qs : Nat → qT} (Zk : tOK Z) (K : qsOK Z e qs) (hg : g < tn1 Z) (h9 : h ≤ 999) (M : mSit Z S2 h d e qs) (w41 : S2 99 41 = -1) (E : ∀ S, oSame mHo S2 S → ∃ S4, fX12_unpack 5000 46 0 S = some (0, S4) ∧ mSame S1 S4 ∧ S4 99 4 = 0) : Gv (fX12_first_h32 5000 5000 (nI g) (-1) 1 S2) (fun r => ansF (trB Z (e g) d (wetZ Z) h (qs g)) 60 r.1 ∧ mSame S1 r.2 ∧ r.2 99 4 = 0) := by
  have z6 := Zk.2.1.2
  have out : ∀ S v, oSame mHo S2 S → ansF (trB Z (e g) d (wetZ Z) h (qs g)) 60 v → Gv (fX12_first_b66 5000 v S) (fun r => ansF (trB Z (e g) d (wetZ Z) h (qs g)) 60 r.1 ∧ mSame S1 r.2 ∧ r.2 99 4 = 0) := by
    intro S v s hv
    obtain ⟨S4, u1, u2, u3⟩ := E S s
    refine ⟨(v, S4), ?_, hv, u2, u3⟩
    unfold fX12_first_b66
    rw [bnd_t u1]
  refine loopG (A := Int32 × gS) (fun f k a => fX12_first_h32 5000 f (nI g) a.1 (nI (k + 1)) a.2) (fun k a => oSame mHo S2 a.2 ∧ ((a.1 = -1 ∧ mSit Z a.2 (h + k) d e (fun g => trj Z (e g) d (wetZ Z) h (qs g) k) ∧ ∀ i, i < k → trB Z (e g) d (wetZ Z) h (qs g) i = false) ∨ (¬ a.1 = -1 ∧ ansF (trB Z (e g) d (wetZ Z) h (qs g)) 60 a.1))) _ 60 ?_ ?_ 60 0 (-1, S2) 5000 (by omega) ⟨oSame.rf, Or.inl ⟨rfl, M, fun i hi => by omega⟩⟩ (by omega)
  · rintro f ⟨v, S⟩ ⟨i1, i2⟩
    show Gv (fX12_first_b32 5000 _ (nI g) v (nI 61) S) _
    unfold fX12_first_b32
    rw [if_pos (show (60 : Int32) < nI 61 by decide)]
    refine out S v i1 ?_
    rcases i2 with ⟨h1, h2, h3⟩ | ⟨h1, h2⟩
    · exact Or.inr ⟨h3, h1⟩
    · exact h2
  · rintro f k ⟨v, S⟩ hk ⟨i0, i2⟩
    have i1 : oSame mHo S2 S := i0
    have h60 : ¬ (60 : Int32) < nI (k + 1) := nI_nlt (a := 60) (by omega) (by decide)
    rcases i2 with ⟨h1, h2, h3⟩ | ⟨h1, h2⟩
    · dsimp only at h1 h2
      subst h1
      obtain ⟨S3, r1, r2, r3, r4⟩ := m_step1 (N := 5000) Zk (K.h.tr (wf := wetZ Z) (h := h) (d := d) (e := e) k) (by omega) (by decide) h2 (by rw [i1 99 41 rfl]; exact w41)
      have hF : fX12_first_h32 5000 (f + 1) (nI g) (-1) (nI (k + 1)) S = if iv (trB Z (e g) d (wetZ Z) h (qs g) k) = 0 then fX12_first_b60 5000 (fX12_first_h32 5000 f) (nI g) (-1) (nI (k + 1)) S3 else fX12_first_b58 5000 (fX12_first_h32 5000 f) (nI g) (nI (k + 1)) S3 := by
        show fX12_first_b32 5000 (fX12_first_h32 5000 f) (nI g) (-1) (nI (k + 1)) S = _
        unfold fX12_first_b32
        rw [if_neg h60]
        unfold fX12_first_b38
        rw [if_pos rfl]
        unfold fX12_first_b43
        rw [bnd_t r1]
        dsimp only
        rw [bnd_t m_isOf, r3, silent_bt z6 hg]
        rfl
      cases hb : trB Z (e g) d (wetZ Z) h (qs g) k with
      | false =>
        refine Or.inr ⟨(-1, S3), ⟨i1.tr r4, Or.inl ⟨rfl, r2, fun i hi => ?_⟩⟩, ?_⟩
        · by_cases hik : i = k
          · rw [hik]; exact hb
          · exact h3 i (by omega)
        · show fX12_first_h32 5000 (f + 1) (nI g) (-1) (nI (k + 1)) S = _
          rw [hF, hb]
          show fX12_first_b60 5000 (fX12_first_h32 5000 f) (nI g) (-1) (nI (k + 1)) S3 = _
          unfold fX12_first_b60
          rw [nI_1]
      | true =>
        refine Or.inr ⟨(nI (k + 1), S3), ⟨i1.tr r4, Or.inr ⟨nI_nem (by omega), Or.inl ⟨k, hk, hb, h3, rfl⟩⟩⟩, ?_⟩
        show fX12_first_h32 5000 (f + 1) (nI g) (-1) (nI (k + 1)) S = _
        rw [hF, hb]
        show fX12_first_b58 5000 (fX12_first_h32 5000 f) (nI g) (nI (k + 1)) S3 = _
        unfold fX12_first_b58 fX12_first_b60
        rw [nI_1]
    · refine Or.inl ?_
      show Gv (fX12_first_b32 5000 _ (nI g) v (nI (k + 1)) S) _
      unfold fX12_first_b32
      rw [if_neg h60]
      unfold fX12_first_b38
      rw [if_neg h1]
      exact out S v i1 h2
theorem st_first : Lw_first JJ := by
  intro SX SM x1 hJ
  obtain ⟨S1, Z, h, qs, hS1, c0, hJ1, Zk, h9, C, M, K, w41, x0, x5⟩ := pre hJ
  have z6 := Zk.2.1.2
  have hF : fX12_first 5000 x1 SM = if iv (inb x1 (tn1 Z)) = 0 then fX12_first_b13 5000 S1 else fX12_first_b19 5000 x1 S1 := by
    unfold fX12_first fX12_first_b0
    dsimp only [lt]
    rw [← hS1, bnd_t (m_isGuild M.1.2.1 (by omega))]
  cases h1 : inb x1 (tn1 Z) with
  | false =>
    refine stFl 5000 5000 1 hJ one_ne (Or.inr rfl) (ngF x5 (by omega) h1) ?_
    show fX12_first 5000 x1 SM = _
    rw [hF, h1, ← hS1]
    rfl
  | true =>
  obtain ⟨g, hg, rfl⟩ := inb_of h1 (by omega)
  obtain ⟨X1, b1, b2, b3⟩ := x_begin (N := 5000) (Or.inl rfl) Zk C hg (by omega)
  obtain ⟨S2, k1, k2, k3, -, -, -, k4⟩ := q_go M w41 c0
  refine stSr 5000 5000 (ansF (trB Z (Z 5 g) (SX 21 1) (wetZ Z) h (qs g)) 60) ansF.u hJ rfl (Or.inl rfl) ?_ ?_
  · have e : fX11_first 5000 (nI g) SX = fX11_first_h26 5000 5000 1 X1 := by
      refine (ngT x5 (by omega) h1).trans ?_
      dsimp only [lt]
      rw [bnd_t b1]
    show Gv (fX11_first 5000 (nI g) SX) _
    rw [e]
    exact x_first_h Zk C.1 h9 (K.1 g hg) (K.2.2 g hg) b2 b3
  · have e : fX12_first 5000 (nI g) SM = fX12_first_h32 5000 5000 (nI g) (-1) 1 S2 := by
      rw [hF, h1]
      show fX12_first_b19 5000 (nI g) S1 = _
      unfold fX12_first_b19
      rw [bnd_t k1]
    show Gv (fX12_first 5000 (nI g) SM) _
    rw [e, ← hS1]
    exact m_first_h Zk K hg h9 k2 k3 k4
/-! dismissed -/
noncomputable def gone (Z : gS) (e d : Int32) (h : Nat) (q : qT) (i : Nat) : Bool := decide ((trj Z e d (wetZ Z) h q (i + 1)).2.2.2 = -1)
theorem x_dismissed_h {Z SX S : gS} {h g : Nat} {d : Int32} {q : qT} (Zk : tOK Z) (hx : tXz (xtw SX) Z SX) (h9 : h ≤ 999) (hq : qOK (tn0 Z) q) (he : eOK (Z 5 g)) (W : wkA S (Z 5 g) d (nI h) q) (s : oSame xWk SX S) : Gv (fX11_dismissed_h44 5000 5000 1 S) (fun r => r.1 = 0 ∧ ansF (gone Z (Z 5 g) d h q) 60 r.2.1 ∧ xSame SX r.2.2) := by
  refine loopG (fun f k S => fX11_dismissed_h44 5000 f (nI (k + 1)) S) (fun k S' => wkA S' (Z 5 g) d (nI (h + k)) (trj Z (Z 5 g) d (wetZ Z) h q k) ∧ oSame xWk SX S' ∧ ∀ i, i < k → gone Z (Z 5 g) d h q i = false) _ 60 ?_ ?_ 60 0 S 5000 (by omega) ⟨W, s, fun i hi => by omega⟩ (by omega)
  · rintro f S1 ⟨i1, i2, i3⟩
    exact ⟨(0, -1, S1), rfl, rfl, Or.inr ⟨i3, rfl⟩, xWk.same i2⟩
  · rintro f k S1 hk ⟨i1, i2, i3⟩
    have hT : tXz (xtw SX) Z S1 := hx.on xtw_cases i2
    obtain ⟨S2, r1, r2, r3⟩ := x_passHours (N := 5000) (n := 1) xtw_cases Zk hT (trj_ok hq he k) he i1 (by omega) (by omega) (by decide)
    have r1 : fX10_passHours 5000 (xtw SX) 1 S1 = some (0, S2) := r1
    have r2 : wkA S2 (Z 5 g) d (nI (h + (k + 1))) (trj Z (Z 5 g) d (wetZ Z) h q (k + 1)) := r2
    have hF : fX11_dismissed_h44 5000 (f + 1) (nI (k + 1)) S1 = if (trj Z (Z 5 g) d (wetZ Z) h q (k + 1)).2.2.2 = -1 then fX11_dismissed_b73 5000 (nI (k + 1)) S2 else fX11_dismissed_b75 5000 (fX11_dismissed_h44 5000 f) (nI (k + 1)) S2 := by
      show fX11_dismissed_b44 5000 (fX11_dismissed_h44 5000 f) (nI (k + 1)) S1 = _
      unfold fX11_dismissed_b44
      rw [if_neg (show ¬ (60 : Int32) < nI (k + 1) from nI_nlt (a := 60) (by omega) (by decide))]
      unfold fX11_dismissed_b50
      dsimp only [lt]
      rw [xWk.tw i2, bnd_t r1]
      simp only [r2.2.2.2.2.1]
    by_cases hb : (trj Z (Z 5 g) d (wetZ Z) h q (k + 1)).2.2.2 = -1
    · refine Or.inl ⟨(0, nI (k + 1), S2), ?_, rfl, Or.inl ⟨k, hk, decide_eq_true hb, i3, rfl⟩, xWk.same (i2.tr r3)⟩
      show fX11_dismissed_h44 5000 (f + 1) (nI (k + 1)) S1 = _
      rw [hF, if_pos hb]
      rfl
    · refine Or.inr ⟨S2, ⟨r2, i2.tr r3, fun i hi => ?_⟩, ?_⟩
      · by_cases hik : i = k
        · rw [hik]; exact decide_eq_false hb
        · exact i3 i (by omega)
      · show fX11_dismissed_h44 5000 (f + 1) (nI (k + 1)) S1 = _
        rw [hF, if_neg hb]
        unfold fX11_dismissed_b75
        rw [nI_1]
theorem m_dismissed_h {Z S1 S2 : gS} {h g : Nat} {d : Int32} {e : Nat → Int32} {qs : Nat → qT} (Zk : tOK Z) (K : qsOK Z e qs) (hg : g < tn1 Z) (h9 : h ≤ 999) (hne : ¬ (qs g).2.2.2 = -1) (M : mSit Z S2 h d e qs) (w41 : S2 99 41 = -1) (E : ∀ S, oSame mHo S2 S → ∃ S4, fX12_unpack 5000 46 0 S = some (0, S4) ∧ mSame S1 S4 ∧ S4 99 4 = 0) : Gv (fX12_dismissed_h32 5000 5000 (nI g) (-1) 1 S2) (fun r => ansF (gone Z (e g) d h (qs g)) 60 r.1 ∧ mSame S1 r.2 ∧ r.2 99 4 = 0) := by
  have z6 := Zk.2.1.2
  have hgc : (nI g).toNatClampNeg = g := nI_clamp (by omega)
  have hin : inb (nI g) 6 = true := inb_t (by omega) (by decide)
  have out : ∀ S v, oSame mHo S2 S → ansF (gone Z (e g) d h (qs g)) 60 v → Gv (fX12_dismissed_b75 5000 v S) (fun r => ansF (gone Z (e g) d h (qs g)) 60 r.1 ∧ mSame S1 r.2 ∧ r.2 99 4 = 0) := by
    intro S v s hv
    obtain ⟨S4, u1, u2, u3⟩ := E S s
    refine ⟨(v, S4), ?_, hv, u2, u3⟩
    unfold fX12_dismissed_b75
    rw [bnd_t u1]
  refine loopG (A := Int32 × gS) (fun f k a => fX12_dismissed_h32 5000 f (nI g) a.1 (nI (k + 1)) a.2) (fun k a => oSame mHo S2 a.2 ∧ ((a.1 = -1 ∧ mSit Z a.2 (h + k) d e (fun g => trj Z (e g) d (wetZ Z) h (qs g) k) ∧ (¬ (trj Z (e g) d (wetZ Z) h (qs g) k).2.2.2 = -1) ∧ ∀ i, i < k → gone Z (e g) d h (qs g) i = false) ∨ (¬ a.1 = -1 ∧ ansF (gone Z (e g) d h (qs g)) 60 a.1))) _ 60 ?_ ?_ 60 0 (-1, S2) 5000 (by omega) ⟨oSame.rf, Or.inl ⟨rfl, M, hne, fun i hi => by omega⟩⟩ (by omega)
  · rintro f ⟨v, S⟩ ⟨i1, i2⟩
    show Gv (fX12_dismissed_b32 5000 _ (nI g) v (nI 61) S) _
    unfold fX12_dismissed_b32
    rw [if_pos (show (60 : Int32) < nI 61 by decide)]
    refine out S v i1 ?_
    rcases i2 with ⟨h1, h2, h4, h3⟩ | ⟨h1, h2⟩
    · exact Or.inr ⟨h3, h1⟩
    · exact h2
  · rintro f k ⟨v, S⟩ hk ⟨i0, i2⟩
    have i1 : oSame mHo S2 S := i0
    have h60 : ¬ (60 : Int32) < nI (k + 1) := nI_nlt (a := 60) (by omega) (by decide)
    rcases i2 with ⟨h1, h2, h4, h3⟩ | ⟨h1, h2⟩
    · dsimp only at h1 h2
      subst h1
      obtain ⟨S3, r1, r2, r3, r4⟩ := m_step1 (N := 5000) Zk (K.h.tr (wf := wetZ Z) (h := h) (d := d) (e := e) k) (by omega) (by decide) h2 (by rw [i1 99 41 rfl]; exact w41)
      have e35 : S3 35 g = (trj Z (e g) d (wetZ Z) h (qs g) (k + 1)).2.2.2 := (r2.2.2.2.2 g hg).2.2.2
      have hF : fX12_dismissed_h32 5000 (f + 1) (nI g) (-1) (nI (k + 1)) S = if (trj Z (e g) d (wetZ Z) h (qs g) (k + 1)).2.2.2 = -1 then fX12_dismissed_b67 5000 (fX12_dismissed_h32 5000 f) (nI g) (nI (k + 1)) S3 else fX12_dismissed_b69 5000 (fX12_dismissed_h32 5000 f) (nI g) (-1) (nI (k + 1)) S3 := by
        show fX12_dismissed_b32 5000 (fX12_dismissed_h32 5000 f) (nI g) (-1) (nI (k + 1)) S = _
        unfold fX12_dismissed_b32
        rw [if_neg h60]
        unfold fX12_dismissed_b38
        rw [if_pos rfl]
        unfold fX12_dismissed_b43
        rw [chk_t hin, hgc, (h2.2.2.2.2 g hg).2.2.2, if_neg h4]
        unfold fX12_dismissed_b53
        rw [bnd_t r1]
        dsimp only
        rw [chk_t hin, hgc]
        simp only [e35]
      by_cases hb : (trj Z (e g) d (wetZ Z) h (qs g) (k + 1)).2.2.2 = -1
      · refine Or.inr ⟨(nI (k + 1), S3), ⟨i1.tr r4, Or.inr ⟨nI_nem (by omega), Or.inl ⟨k, hk, decide_eq_true hb, h3, rfl⟩⟩⟩, ?_⟩
        show fX12_dismissed_h32 5000 (f + 1) (nI g) (-1) (nI (k + 1)) S = _
        rw [hF, if_pos hb]
        unfold fX12_dismissed_b67 fX12_dismissed_b69
        rw [nI_1]
      · refine Or.inr ⟨(-1, S3), ⟨i1.tr r4, Or.inl ⟨rfl, r2, hb, fun i hi => ?_⟩⟩, ?_⟩
        · by_cases hik : i = k
          · rw [hik]; exact decide_eq_false hb
          · exact h3 i (by omega)
        · show fX12_dismissed_h32 5000 (f + 1) (nI g) (-1) (nI (k + 1)) S = _
          rw [hF, if_neg hb]
          unfold fX12_dismissed_b69
          rw [nI_1]
    · refine Or.inl ?_
      show Gv (fX12_dismissed_b32 5000 _ (nI g) v (nI (k + 1)) S) _
      unfold fX12_dismissed_b32
      rw [if_neg h60]
      unfold fX12_dismissed_b38
      rw [if_neg h1]
      exact out S v i1 h2
theorem st_dismissed : Lw_dismissed JJ := by
  intro SX SM x1 hJ
  obtain ⟨S1, Z, h, qs, hS1, c0, hJ1, Zk, h9, C, M, K, w41, x0, x5⟩ := pre hJ
  have z6 := Zk.2.1.2
  have hF : fX12_dismissed 5000 x1 SM = if iv (inb x1 (tn1 Z)) = 0 then fX12_dismissed_b13 5000 S1 else fX12_dismissed_b19 5000 x1 S1 := by
    unfold fX12_dismissed fX12_dismissed_b0
    dsimp only [lt]
    rw [← hS1, bnd_t (m_isGuild M.1.2.1 (by omega))]
  cases h1 : inb x1 (tn1 Z) with
  | false =>
    refine stFl 5000 5000 1 hJ one_ne (Or.inr rfl) (ngF x5 (by omega) h1) ?_
    show fX12_dismissed 5000 x1 SM = _
    rw [hF, h1, ← hS1]
    rfl
  | true =>
  obtain ⟨g, hg, rfl⟩ := inb_of h1 (by omega)
  have hgc : (nI g).toNatClampNeg = g := nI_clamp (by omega)
  have hin : inb (nI g) 6 = true := inb_t (by omega) (by decide)
  obtain ⟨X1, b1, b2, b3⟩ := x_begin (N := 5000) (Or.inl rfl) Zk C hg (by omega)
  obtain ⟨S2, k1, k2, k3, -, -, -, k4⟩ := q_go M w41 c0
  have c4 : SX 25 g = (qs g).2.2.2 := (C.2.2.2 g hg).2.2.2
  have hX : fX11_dismissed 5000 (nI g) SX = if (qs g).2.2.2 = -1 then fX11_dismissed_b21 5000 SX else fX11_dismissed_b23 5000 (nI g) SX := by
    refine (ngT x5 (by omega) h1).trans ?_
    dsimp only
    rw [chk_t hin, hgc]
    simp only [c4]
  have hM : fX12_dismissed 5000 (nI g) SM = fX12_dismissed_h32 5000 5000 (nI g) (-1) 1 S2 := by
    rw [hF, h1]
    show fX12_dismissed_b19 5000 (nI g) S1 = _
    unfold fX12_dismissed_b19
    rw [bnd_t k1]
  by_cases hn : (qs g).2.2.2 = -1
  · obtain ⟨S4, u1, u2, u3⟩ := k4 S2 oSame.rf
    refine stSu 5000 5000 (-1) hJ rfl (Or.inl rfl) ⟨(0, -1, SX), ?_, rfl, rfl, xSame.rf⟩ ⟨(-1, S4), ?_, rfl, by rw [← hS1]; exact u2, u3⟩
    · show fX11_dismissed 5000 (nI g) SX = _
      rw [hX, if_pos hn]
      rfl
    · show fX12_dismissed 5000 (nI g) SM = _
      rw [hM]
      show fX12_dismissed_b32 5000 (fX12_dismissed_h32 5000 4999) (nI g) (-1) 1 S2 = _
      unfold fX12_dismissed_b32
      rw [if_neg (by decide)]
      unfold fX12_dismissed_b38
      rw [if_pos rfl]
      unfold fX12_dismissed_b43
      rw [chk_t hin, hgc, (k2.2.2.2.2 g hg).2.2.2, if_pos hn]
      unfold fX12_dismissed_b75
      rw [bnd_t u1]
  · refine stSr 5000 5000 (ansF (gone Z (Z 5 g) (SX 21 1) h (qs g)) 60) ansF.u hJ rfl (Or.inl rfl) ?_ ?_
    · have e : fX11_dismissed 5000 (nI g) SX = fX11_dismissed_h44 5000 5000 1 X1 := by
        rw [hX, if_neg hn]
        unfold fX11_dismissed_b23
        dsimp only [lt]
        rw [bnd_t b1]
      show Gv (fX11_dismissed 5000 (nI g) SX) _
      rw [e]
      exact x_dismissed_h Zk C.1 h9 (K.1 g hg) (K.2.2 g hg) b2 b3
    · show Gv (fX12_dismissed 5000 (nI g) SM) _
      rw [hM, ← hS1]
      exact m_dismissed_h Zk K hg h9 hn k2 k3 k4
end

/-! part 51.amost -/
section
/-! most, confessing -/
noncomputable def gtN (v : Nat → Int32) : Nat → Nat
  | 0 => 0
  | g + 1 => if g = 0 then 0 else if v g ≤ v (gtN v g) then gtN v g else g
noncomputable def gtR (v : Nat → Int32) (n : Nat) : Int32 := if n = 0 then -1 else nI (gtN v n)
theorem gtN_lt {v : Nat → Int32} : ∀ n, 0 < n → gtN v n < n := by
  intro n
  induction n with
  | zero => intro h; omega
  | succ n ih =>
    intro _
    show (if n = 0 then 0 else if v n ≤ v (gtN v n) then gtN v n else n) < n + 1
    by_cases h0 : n = 0
    · rw [if_pos h0]; omega
    · rw [if_neg h0]
      have := ih (by omega)
      by_cases h1 : v n ≤ v (gtN v n)
      · rw [if_pos h1]; omega
      · rw [if_neg h1]; omega
theorem gtN_eq {v v' : Nat → Int32} : ∀ n, (∀ i, i < n → v i = v' i) → gtN v n = gtN v' n := by
  intro n
  induction n with
  | zero => intro _; rfl
  | succ n ih =>
    intro h
    have e := ih (fun i hi => h i (by omega))
    show (if n = 0 then 0 else if v n ≤ v (gtN v n) then gtN v n else n) = (if n = 0 then 0 else if v' n ≤ v' (gtN v' n) then gtN v' n else n)
    by_cases h0 : n = 0
    · rw [if_pos h0, if_pos h0]
    · have hl := gtN_lt (v := v') n (by omega)
      rw [if_neg h0, if_neg h0, e, h n (by omega), h (gtN v' n) (by omega)]
theorem gtR_eq {v v' : Nat → Int32} {n : Nat} (h : ∀ i, i < n → v i = v' i) : gtR v n = gtR v' n := by
  unfold gtR
  rw [gtN_eq n h]
theorem m_greatest {N n k1 : Nat} {S : gS} (hn : S 5 1 = nI n) (h6 : n ≤ 6) (hk : mN k1 = 6) (hN : 700 < N) : fX12_greatest N k1 S = some (gtR (S k1) n, S) := by
  have main : Gv (fX12_greatest_h4 N N k1 (-1) 0 S) (fun r => r = (gtR (S k1) n, S)) := by
    refine loopG (A := Int32) (fun f g x => fX12_greatest_h4 N f k1 x (nI g) S) (fun g x => x = gtR (S k1) g) _ n ?_ ?_ n 0 (-1) N (by omega) rfl (by omega)
    · rintro f x rfl
      show Gv (fX12_greatest_b4 N _ k1 _ (nI n) S) _
      unfold fX12_greatest_b4
      rw [hn, if_pos (nI_le (Nat.le_refl _) (by omega))]
      exact ⟨_, rfl, rfl⟩
    · rintro f g x hg rfl
      refine Or.inr ⟨gtR (S k1) (g + 1), rfl, ?_⟩
      show fX12_greatest_b4 N (fX12_greatest_h4 N f) k1 _ (nI g) S = _
      unfold fX12_greatest_b4
      rw [hn, if_neg (nI_ge hg (by omega))]
      unfold fX12_greatest_b14 gtR
      by_cases h0 : g = 0
      · subst h0
        rw [if_pos rfl, if_pos rfl]
        unfold fX12_greatest_b28 fX12_greatest_b30
        rfl
      · have hl := gtN_lt (v := S k1) g (by omega)
        rw [if_neg h0, if_neg (nI_nem (by omega)), if_neg (Nat.succ_ne_zero g)]
        unfold fX12_greatest_b19
        rw [hk, chk_t (inb_t (by omega) (by decide)), chk_t (inb_t (by omega) (by decide)), nI_clamp (n := g) (by omega), nI_clamp (n := gtN (S k1) g) (by omega)]
        show _ = fX12_greatest_h4 N f k1 (nI (if g = 0 then 0 else if S k1 g ≤ S k1 (gtN (S k1) g) then gtN (S k1) g else g)) (nI (g + 1)) S
        rw [if_neg h0]
        by_cases h1 : S k1 g ≤ S k1 (gtN (S k1) g)
        · rw [if_pos h1, if_pos h1]
          unfold fX12_greatest_b30
          rw [nI_1]
        · rw [if_neg h1, if_neg h1]
          unfold fX12_greatest_b28 fX12_greatest_b30
          rw [nI_1]
  obtain ⟨r, r1, rfl⟩ := main
  exact r1
noncomputable def muV (x2 : Int32) (q : qT) : Int32 := if x2 = 0 then q.2.1 else q.1
theorem x_most_h {Z SX : gS} {h c : Nat} {d x2 : Int32} {qs : Nat → qT} (Zk : tOK Z) (C : cSit 21 Z SX h d qs) (K : qsOK Z (Z 5) qs) (h9 : h ≤ 999) (hc : c ≤ 60) : Gv (fX11_most_h20 5000 5000 (nI c) x2 (-1) (-1) 0 SX) (fun r => r.1 = 0 ∧ r.2.1 = gtR (fun g => muV x2 (trj Z (Z 5 g) d (wetZ Z) h (qs g) c)) (tn1 Z) ∧ xSame SX r.2.2) := by
  have z6 := Zk.2.1.2
  obtain ⟨v, hv⟩ : ∃ z : Nat → Int32, z = fun g => muV x2 (trj Z (Z 5 g) d (wetZ Z) h (qs g) c) := ⟨_, rfl⟩
  rw [← hv]
  have hv0 : ∀ g, g < tn1 Z → ¬ v g ≤ -1 := by
    intro g hg hh
    have hq := trj_ok (Z := Z) (d := d) (wf := wetZ Z) (h := h) (K.1 g hg) (K.2.2 g hg) c
    have h0 : 0 ≤ v g := by
      rw [hv]
      show 0 ≤ muV x2 _
      unfold muV
      by_cases hx : x2 = 0
      · rw [if_pos hx]; exact hq.2.1.1
      · rw [if_neg hx]; exact hq.1.1
    exact absurd (Int32.le_trans h0 hh) (by decide)
  refine loopG (A := Int32 × Int32 × gS) (fun f g a => fX11_most_h20 5000 f (nI c) x2 a.1 a.2.1 (nI g) a.2.2) (fun g a => a.1 = gtR v g ∧ a.2.1 = (if g = 0 then -1 else v (gtN v g)) ∧ oSame xWk SX a.2.2) _ (tn1 Z) ?_ ?_ (tn1 Z) 0 (-1, -1, SX) 5000 (by omega) ⟨rfl, rfl, oSame.rf⟩ (by omega)
  · rintro f ⟨x, y, S⟩ ⟨i1, i2, i3⟩
    dsimp only at i1 i2 i3
    refine ⟨(0, x, S), ?_, rfl, i1, xWk.same i3⟩
    show fX11_most_b20 5000 _ (nI c) x2 x y (nI (tn1 Z)) S = _
    unfold fX11_most_b20
    dsimp only [lt]
    have C' := C.on (Or.inl rfl) i3
    rw [show S (xtw S) 5 = nI (tn1 Z) from (C'.1 0 5 (by omega) (by omega)).trans Zk.2.1.1, if_pos (nI_le (Nat.le_refl _) (by omega))]
    rfl
  · rintro f g ⟨x, y, S⟩ hg ⟨i1, i2, i3⟩
    dsimp only at i1 i2 i3
    have C' := C.on (Or.inl rfl) i3
    obtain ⟨X1, b1, b2, b3⟩ := x_begin (N := 5000) (Or.inl rfl) Zk C' hg (by omega)
    obtain ⟨X2, p1, p2, p3⟩ := x_passHours (N := 5000) (n := c) xtw_cases Zk (C'.1.on xtw_cases b3) (K.1 g hg) (K.2.2 g hg) b2 (by omega) (by omega) (by decide)
    have hF : fX11_most_h20 5000 (f + 1) (nI c) x2 x y (nI g) S = fX11_most_b85 5000 (fX11_most_h20 5000 f) (nI c) x2 x y (nI g) (v g) X2 := by
      show fX11_most_b20 5000 (fX11_most_h20 5000 f) (nI c) x2 x y (nI g) S = _
      unfold fX11_most_b20
      dsimp only [lt]
      rw [show S (xtw S) 5 = nI (tn1 Z) from (C'.1 0 5 (by omega) (by omega)).trans Zk.2.1.1, if_neg (nI_ge hg (by omega))]
      unfold fX11_most_b32
      dsimp only [lt]
      rw [bnd_t b1]
      dsimp only
      rw [xWk.tw b3, bnd_t p1]
      dsimp only
      rw [hv]
      show _ = fX11_most_b85 5000 (fX11_most_h20 5000 f) (nI c) x2 x y (nI g) (muV x2 _) X2
      unfold muV
      by_cases hx : x2 = 0
      · rw [if_pos hx, if_pos hx]
        unfold fX11_most_b68
        rw [p2.2.2.1]
      · rw [if_neg hx, if_neg hx]
        unfold fX11_most_b78
        rw [p2.2.1]
    refine Or.inr ?_
    have s2 := (i3.tr b3).tr p3
    by_cases h0 : g = 0
    · subst h0
      refine ⟨(nI 0, v 0, X2), ⟨rfl, rfl, s2⟩, ?_⟩
      show fX11_most_h20 5000 (f + 1) (nI c) x2 x y (nI 0) S = _
      rw [hF, i2, if_pos rfl]
      unfold fX11_most_b85
      rw [if_neg (hv0 0 hg)]
      rfl
    · have e1 : gtN v (g + 1) = if v g ≤ v (gtN v g) then gtN v g else g := if_neg h0
      have e2 : gtR v g = nI (gtN v g) := if_neg h0
      rw [if_neg h0] at i2
      by_cases h1 : v g ≤ v (gtN v g)
      · rw [if_pos h1] at e1
        refine ⟨(x, y, X2), ⟨?_, ?_, s2⟩, ?_⟩
        · show x = gtR v (g + 1)
          unfold gtR
          rw [if_neg (Nat.succ_ne_zero g), e1, i1, e2]
        · show y = if g + 1 = 0 then -1 else v (gtN v (g + 1))
          rw [if_neg (Nat.succ_ne_zero g), e1, i2]
        · show fX11_most_h20 5000 (f + 1) (nI c) x2 x y (nI g) S = _
          rw [hF]
          unfold fX11_most_b85
          rw [i2, if_pos h1]
          unfold fX11_most_b101
          rw [nI_1]
      · rw [if_neg h1] at e1
        refine ⟨(nI g, v g, X2), ⟨?_, ?_, s2⟩, ?_⟩
        · show nI g = gtR v (g + 1)
          unfold gtR
          rw [if_neg (Nat.succ_ne_zero g), e1]
        · show v g = if g + 1 = 0 then -1 else v (gtN v (g + 1))
          rw [if_neg (Nat.succ_ne_zero g), e1]
        · show fX11_most_h20 5000 (f + 1) (nI c) x2 x y (nI g) S = _
          rw [hF]
          unfold fX11_most_b85
          rw [i2, if_neg h1]
          unfold fX11_most_b94 fX11_most_b101
          rw [nI_1]
theorem st_most : Lw_most JJ := by
  intro SX SM x1 x2 hJ
  obtain ⟨S1, Z, h, qs, hS1, c0, hJ1, Zk, h9, C, M, K, w41, x0, x5⟩ := pre hJ
  have z6 := Zk.2.1.2
  have hF : fX12_most 5000 x1 x2 SM = if x2 < 0 then fX12_most_b14 5000 S1 else fX12_most_b9 5000 x1 x2 S1 := by
    unfold fX12_most fX12_most_b0
    dsimp only [lt]
    rw [← hS1]
  have hH : fX12_most_b20 5000 x1 x2 S1 = if iv (wth x1 0 60) = 0 then fX12_most_b32 5000 S1 else fX12_most_b38 5000 x1 x2 S1 := by
    unfold fX12_most_b20
    rw [bnd_t in_0_60]
  cases h3 : wth x2 0 1 with
  | false =>
    refine stFl 5000 5000 1 hJ one_ne (Or.inr (Or.inl rfl)) (nwF h3) ?_
    show fX12_most 5000 x1 x2 SM = _
    rw [hF, ← hS1]
    rcases w01F h3 with q | ⟨q1, q2⟩
    · rw [if_pos q]
      rfl
    · rw [if_neg q1]
      unfold fX12_most_b9
      rw [if_neg q2]
      rfl
  | true =>
  obtain ⟨y1, y2, -⟩ := w01T h3
  have hG : fX12_most 5000 x1 x2 SM = fX12_most_b20 5000 x1 x2 S1 := by
    rw [hF, if_neg y1]
    unfold fX12_most_b9
    rw [if_pos y2]
  cases h2 : wth x1 0 60 with
  | false =>
    refine stFl 5000 5000 2 hJ two_ne (Or.inr (Or.inr rfl)) ((nwT h3).trans (niF h2)) ?_
    show fX12_most 5000 x1 x2 SM = _
    rw [hG, hH, h2, ← hS1]
    rfl
  | true =>
  obtain ⟨c, -, c2, rfl⟩ := wth_of (a := 0) (b := 60) (by decide) (by decide) h2
  obtain ⟨S2, k1, k2, k3, -, -, -, k4⟩ := q_go M w41 c0
  obtain ⟨S3, r1, r2, r3⟩ := m_goOn (N := 5000) (n := c) Zk K.h (by omega) (by decide) (by omega) k2 k3
  obtain ⟨S4, u1, u2, u3⟩ := k4 S3 r3
  refine stSu 5000 5000 (gtR (fun g => muV x2 (trj Z (Z 5 g) (SX 21 1) (wetZ Z) h (qs g) c)) (tn1 Z)) hJ rfl (Or.inl rfl) ?_ ⟨(gtR (fun g => muV x2 (trj Z (Z 5 g) (SX 21 1) (wetZ Z) h (qs g) c)) (tn1 Z), S4), ?_, rfl, by rw [← hS1]; exact u2, u3⟩
  · have e : fX11_most 5000 (nI c) x2 SX = fX11_most_h20 5000 5000 (nI c) x2 (-1) (-1) 0 SX := (nwT h3).trans (niT h2)
    show Gv (fX11_most 5000 (nI c) x2 SX) _
    rw [e]
    exact x_most_h Zk C K h9 c2
  · show fX12_most 5000 (nI c) x2 SM = _
    rw [hG, hH, h2]
    show fX12_most_b38 5000 (nI c) x2 S1 = _
    unfold fX12_most_b38
    rw [bnd_t k1]
    dsimp only
    rw [bnd_t r1]
    dsimp only
    by_cases hx : x2 = 0
    · rw [if_pos hx]
      unfold fX12_most_b57 fX12_most_b68
      rw [bnd_t (m_greatest (n := tn1 Z) r2.1.2.1 z6 rfl (by decide))]
      dsimp only
      rw [bnd_t u1, gtR_eq (v := S3 33) (v' := fun g => muV x2 (trj Z (Z 5 g) (SX 21 1) (wetZ Z) h (qs g) c)) (fun i hi => by
        show _ = muV x2 _
        unfold muV
        rw [if_pos hx]
        exact (r2.2.2.2.2 i hi).2.1)]
    · rw [if_neg hx]
      unfold fX12_most_b64 fX12_most_b68
      rw [bnd_t (m_greatest (n := tn1 Z) r2.1.2.1 z6 rfl (by decide))]
      dsimp only
      rw [bnd_t u1, gtR_eq (v := S3 32) (v' := fun g => muV x2 (trj Z (Z 5 g) (SX 21 1) (wetZ Z) h (qs g) c)) (fun i hi => by
        show _ = muV x2 _
        unfold muV
        rw [if_neg hx]
        exact (r2.2.2.2.2 i hi).1)]
/-! one GUILD's row put anew -/
noncomputable def upq (qs : Nat → qT) (g : Nat) (q : qT) : Nat → qT := fun g' => if g' = g then q else qs g'
theorem upq_s {qs : Nat → qT} {g : Nat} {q : qT} : upq qs g q g = q := if_pos rfl
theorem upq_n {qs : Nat → qT} {g g' : Nat} {q : qT} (h : g' ≠ g) : upq qs g q g' = qs g' := if_neg h
theorem mSit.up {Z S S' : gS} {h g : Nat} {d : Int32} {e : Nat → Int32} {qs : Nat → qT} {q : qT} (M : mSit Z S h d e qs) (s : ∀ i j, ¬ (32 ≤ i ∧ i ≤ 35 ∧ j = g) → S' i j = S i j) (r1 : S' 32 g = q.1) (r2 : S' 33 g = q.2.1) (r3 : S' 34 g = q.2.2.1) (r4 : S' 35 g = q.2.2.2) : mSit Z S' h d e (upq qs g q) := by
  obtain ⟨m1, m2, m3, m4, m5⟩ := M
  refine ⟨m1.on (fun i j h1 h2 => s i j (by omega)), fun g' hg => by rw [s 18 g' (by omega)]; exact m2 g' hg, by rw [s 99 37 (by omega)]; exact m3, by rw [s 99 38 (by omega)]; exact m4, fun g' hg => ?_⟩
  by_cases hh : g' = g
  · subst hh
    rw [upq_s]
    exact ⟨r1, r2, r3, r4⟩
  · rw [upq_n hh, s 32 g' (by omega), s 33 g' (by omega), s 34 g' (by omega), s 35 g' (by omega)]
    exact m5 g' hg
theorem qsOK.up {Z : gS} {g : Nat} {e : Nat → Int32} {qs : Nat → qT} {q : qT} (K : qsOK Z e qs) (hq : qOK (tn0 Z) q) (hu : q.2.2.2 = -1 ∨ ∀ g', g' < tn1 Z → g' ≠ g → (qs g').2.2.2 ≠ q.2.2.2) : qsOK Z e (upq qs g q) := by
  obtain ⟨k1, k2, k3⟩ := K
  refine ⟨fun g' hg' => ?_, fun a b ha hb h1 h2 => ?_, k3⟩
  · by_cases hh : g' = g
    · rw [hh, upq_s]; exact hq
    · rw [upq_n hh]; exact k1 g' hg'
  · by_cases h3 : a = g
    · by_cases h4 : b = g
      · rw [h3, h4]
      · rw [h3, upq_s] at h1 h2
        rw [upq_n h4] at h1
        rcases hu with hu | hu
        · exact absurd hu h2
        · exact absurd h1.symm (hu b hb h4)
    · by_cases h4 : b = g
      · rw [h4, upq_s, upq_n h3] at h1
        rw [upq_n h3] at h2
        rcases hu with hu | hu
        · exact absurd (h1.trans hu) h2
        · exact absurd h1 (hu a ha h3)
      · rw [upq_n h3, upq_n h4] at h1
        rw [upq_n h3] at h2
        exact k2 a b ha hb h1 h2
/-! confessing -/
noncomputable def cfq (q : qT) : qT := (q.1 / 2, q.2.1 - 50, q.2.2)
theorem cfq_ok {n0 : Nat} {q : qT} (h : qOK n0 q) (h5 : ¬ q.2.1 < 50) : qOK n0 (cfq q) := by
  obtain ⟨a, b, c⟩ := h
  obtain ⟨x, hx, ex⟩ := i32_99 a
  obtain ⟨y, hy, ey⟩ := i32_999 b
  refine ⟨?_, ?_, c⟩
  · show 0 ≤ q.1 / 2 ∧ q.1 / 2 ≤ 99
    rw [ex, show (2 : Int32) = nI 2 from rfl, pk_div (by omega) (by decide) (by decide)]
    exact of_99 (by omega)
  · show 0 ≤ q.2.1 - 50 ∧ q.2.1 - 50 ≤ 999
    rw [ey] at h5 ⊢
    have h6 : 50 ≤ y := by
      have := mt (nI_ltI (a := y) (b := 50) (by omega) (by omega)).mpr h5
      omega
    rw [show (50 : Int32) = nI 50 from rfl, pk_sub h6]
    exact of_999 (by omega)
theorem cfq_up {Z : gS} {g : Nat} {e : Nat → Int32} {qs : Nat → qT} (K : qsOK Z e qs) (hg : g < tn1 Z) (h5 : ¬ (qs g).2.1 < 50) : qsOK Z e (upq qs g (cfq (qs g))) := by
  refine K.up (cfq_ok (K.1 g hg) h5) ?_
  by_cases hn : (qs g).2.2.2 = -1
  · exact Or.inl hn
  · exact Or.inr (fun g' hg' hne hh => hne (K.2.1 g' g hg' hg hh (fun q => hn (hh.symm.trans q))))
theorem m_canConfess {N g : Nat} {Z S : gS} {h : Nat} {d : Int32} {e : Nat → Int32} {qs : Nat → qT} (Zk : tOK Z) (M : mSit Z S h d e qs) (hg : g < tn1 Z) : fX12_canConfess N (nI g) S = some (iv (decide (¬ (qs g).2.1 < 50)), S) := by
  have z6 := Zk.2.1.2
  unfold fX12_canConfess fX12_canConfess_b0
  rw [chk_t (inb_t (by omega) (by decide)), nI_clamp (by omega), (M.2.2.2.2 g hg).2.1]
  by_cases h5 : (qs g).2.1 < 50
  · rw [if_pos h5, decide_eq_false (fun q => q h5)]
    rfl
  · rw [if_neg h5, decide_eq_true h5]
    rfl
theorem m_doConfess {N g : Nat} {Z S : gS} {h : Nat} {d : Int32} {e : Nat → Int32} {qs : Nat → qT} (Zk : tOK Z) (M : mSit Z S h d e qs) (hg : g < tn1 Z) : ∃ S', fX12_doConfess N (nI g) S = some (0, S') ∧ mSit Z S' h d e (upq qs g (cfq (qs g))) ∧ ∀ i j, ¬ ((i = 32 ∨ i = 33) ∧ j = g) → S' i j = S i j := by
  have z6 := Zk.2.1.2
  obtain ⟨m1, m2, m3, m4⟩ := M.2.2.2.2 g hg
  have s : ∀ i j, ¬ ((i = 32 ∨ i = 33) ∧ j = g) → sU (sU S 33 g ((qs g).2.1 - 50)) 32 g ((qs g).1 / 2) i j = S i j := fun i j hij => by rw [sU_n (by omega), sU_n (by omega)]
  refine ⟨sU (sU S 33 g ((qs g).2.1 - 50)) 32 g ((qs g).1 / 2), ?_, M.up (fun i j hij => s i j (by omega)) ?_ ?_ ?_ ?_, s⟩
  · unfold fX12_doConfess fX12_doConfess_b0
    dsimp only [lt]
    rw [nI_clamp (by omega), chk_t (inb_t (by omega) (by decide)), chk_t (inb_t (by omega) (by decide)), chk_t (inb_t (by omega) (by decide)), chk_t (inb_t (by omega) (by decide)), sU_n (i := 32) (by omega), m1, m2]
  · rw [sU_s]; rfl
  · rw [sU_n (by omega), sU_s]; rfl
  · rw [s 34 g (by omega)]; exact m3
  · rw [s 35 g (by omega)]; exact m4
theorem x_repent {N : Nat} {S : gS} {e d ho : Int32} {q : qT} (W : wkA S e d ho q) : ∃ S', fX10_repent N S = some (0, S') ∧ wkA S' e d ho (cfq q) ∧ oSame xWk S S' := by
  obtain ⟨w0, w1, w2, w3, w4, w5, w7⟩ := W
  refine ⟨sU (sU S 51 2 (q.2.1 - 50)) 51 1 (q.1 / 2), ?_, ⟨?_, ?_, ?_, ?_, ?_, ?_, ?_⟩, (oSame.rf.up rfl).up rfl⟩
  · unfold fX10_repent fX10_repent_b0
    dsimp only [lt]
    rw [sU_n (i := 51) (j := 1) (by omega), w1, w2]
  · rw [sU_n (by omega), sU_n (by omega)]; exact w0
  · rw [sU_s]; rfl
  · rw [sU_n (by omega), sU_s]; rfl
  · rw [sU_n (by omega), sU_n (by omega)]; exact w3
  · rw [sU_n (by omega), sU_n (by omega)]; exact w4
  · rw [sU_n (by omega), sU_n (by omega)]; exact w5
  · rw [sU_n (by omega), sU_n (by omega)]; exact w7
theorem mHo_of {S S' : gS} {g : Nat} (hg : g < 6) (s : ∀ i j, ¬ (32 ≤ i ∧ i ≤ 35 ∧ j = g) → S' i j = S i j) : oSame mHo S S' := by
  intro i j hij
  obtain ⟨-, -, h3, -⟩ := mHo_f hij
  exact s i j (by omega)
theorem st_confessing : Lw_confessing JJ := by
  intro SX SM x1 x2 hJ
  obtain ⟨S1, Z, h, qs, hS1, c0, hJ1, Zk, h9, C, M, K, w41, x0, x5⟩ := pre hJ
  have z6 := Zk.2.1.2
  have hF : fX12_confessing 5000 x1 x2 SM = if iv (inb x1 (tn1 Z)) = 0 then fX12_confessing_b13 5000 S1 else fX12_confessing_b19 5000 x1 x2 S1 := by
    unfold fX12_confessing fX12_confessing_b0
    dsimp only [lt]
    rw [← hS1, bnd_t (m_isGuild M.1.2.1 (by omega))]
  have hH : fX12_confessing_b19 5000 x1 x2 S1 = if iv (wth x2 0 60) = 0 then fX12_confessing_b31 5000 S1 else fX12_confessing_b37 5000 x1 x2 S1 := by
    unfold fX12_confessing_b19
    rw [bnd_t in_0_60]
  cases h1 : inb x1 (tn1 Z) with
  | false =>
    refine stFl 5000 5000 1 hJ one_ne (Or.inr (Or.inl rfl)) (ngF x5 (by omega) h1) ?_
    show fX12_confessing 5000 x1 x2 SM = _
    rw [hF, h1, ← hS1]
    rfl
  | true =>
  cases h2 : wth x2 0 60 with
  | false =>
    refine stFl 5000 5000 2 hJ two_ne (Or.inr (Or.inr rfl)) ((ngT x5 (by omega) h1).trans (niF h2)) ?_
    show fX12_confessing 5000 x1 x2 SM = _
    rw [hF, h1, ← hS1]
    show fX12_confessing_b19 5000 x1 x2 S1 = _
    rw [hH, h2]
    rfl
  | true =>
  obtain ⟨g, hg, rfl⟩ := inb_of h1 (by omega)
  obtain ⟨c, -, c2, rfl⟩ := wth_of (a := 0) (b := 60) (by decide) (by decide) h2
  have hgc : (nI g).toNatClampNeg = g := nI_clamp (by omega)
  have hin : inb (nI g) 6 = true := inb_t (by omega) (by decide)
  have hX : fX11_confessing 5000 (nI g) (nI c) SX = if 50 ≤ (qs g).2.1 then fX11_confessing_b31 5000 (nI g) (nI c) SX else fX11_confessing_b29 5000 SX := by
    refine (ngT x5 (by omega) h1).trans ((niT h2).trans ?_)
    dsimp only
    rw [chk_t hin, hgc]
    simp only [show SX 23 g = (qs g).2.1 from (C.2.2.2 g hg).2.1]
  have hM : fX12_confessing 5000 (nI g) (nI c) SM = if iv (decide (¬ (qs g).2.1 < 50)) = 0 then fX12_confessing_b45 5000 S1 else fX12_confessing_b47 5000 (nI g) (nI c) S1 := by
    rw [hF, h1]
    show fX12_confessing_b19 5000 (nI g) (nI c) S1 = _
    rw [hH, h2]
    show fX12_confessing_b37 5000 (nI g) (nI c) S1 = _
    unfold fX12_confessing_b37
    rw [bnd_t (m_canConfess Zk M hg)]
  by_cases h5 : (qs g).2.1 < 50
  · refine stSu 5000 5000 0 hJ rfl (Or.inl rfl) ⟨(0, 0, SX), ?_, rfl, rfl, xSame.rf⟩ ⟨(0, S1), ?_, rfl, by rw [← hS1]; exact mSame.rf, c0⟩
    · show fX11_confessing 5000 (nI g) (nI c) SX = _
      rw [hX, if_neg (Int32.not_le.mpr h5)]
      rfl
    · show fX12_confessing 5000 (nI g) (nI c) SM = _
      rw [hM, decide_eq_false (fun q => q h5)]
      rfl
  · obtain ⟨X1, b1, b2, b3⟩ := x_begin (N := 5000) (Or.inl rfl) Zk C hg (by omega)
    obtain ⟨X2, p1, p2, p3⟩ := x_passHours (N := 5000) (n := c) xtw_cases Zk (C.1.on xtw_cases b3) (K.1 g hg) (K.2.2 g hg) b2 (by omega) (by omega) (by decide)
    have C2 := C.on (Or.inl rfl) (b3.tr p3)
    obtain ⟨X3, d1, d2, d3⟩ := x_begin (N := 5000) (Or.inl rfl) Zk C2 hg (by omega)
    obtain ⟨X4, e1, e2, e3⟩ := x_repent (N := 5000) d2
    obtain ⟨X5, f1, f2, f3⟩ := x_passHours (N := 5000) (n := c) xtw_cases Zk (C2.1.on xtw_cases (d3.tr e3)) (cfq_ok (K.1 g hg) h5) (K.2.2 g hg) e2 (by omega) (by omega) (by decide)
    obtain ⟨S2, k1, k2, k3, k5, k7, k6, k4⟩ := q_go M w41 c0
    obtain ⟨S3, r1, r2, r3⟩ := m_goOn (N := 5000) (n := c) Zk K.h (by omega) (by decide) (by omega) k2 k3
    obtain ⟨S4, u1, u2, u3, u4⟩ := k6 S3 (fun j => r3 46 j rfl) (k5.q.tr r3.q)
    obtain ⟨S5, v1, v2, v3⟩ := m_doConfess (N := 5000) Zk (M.on u2) hg
    have v4 : oSame mHo S4 S5 := mHo_of (g := g) (by omega) (fun i j hij => v3 i j (by omega))
    obtain ⟨S6, w1, w2, w3⟩ := m_goOn (N := 5000) (n := c) Zk (cfq_up K hg h5).h (by omega) (by decide) (by omega) v2 (by rw [v4 99 41 rfl, u2 99 41 rfl]; exact w41)
    obtain ⟨S7, y1, y2, y3, y4⟩ := k6 S6 (fun j => by
      rw [w3 46 j rfl, v4 46 j rfl, u4 46 j]
      exact r3 46 j rfl) (u2.q.tr (v4.q.tr w3.q))
    refine stSu 5000 5000 ((trj Z (Z 5 g) (SX 21 1) (wetZ Z) h (qs g) c).1 - (trj Z (Z 5 g) (SX 21 1) (wetZ Z) h (cfq (qs g)) c).1) hJ rfl (Or.inl rfl) ⟨(0, ((trj Z (Z 5 g) (SX 21 1) (wetZ Z) h (qs g) c).1 - (trj Z (Z 5 g) (SX 21 1) (wetZ Z) h (cfq (qs g)) c).1), X5), ?_, rfl, rfl, xWk.same (((((b3.tr p3).tr d3).tr e3).tr f3))⟩ ⟨(((trj Z (Z 5 g) (SX 21 1) (wetZ Z) h (qs g) c).1 - (trj Z (Z 5 g) (SX 21 1) (wetZ Z) h (cfq (qs g)) c).1), S7), ?_, rfl, by rw [← hS1]; exact y2, ?_⟩
    · show fX11_confessing 5000 (nI g) (nI c) SX = _
      rw [hX, if_pos (Int32.not_lt.mp h5)]
      unfold fX11_confessing_b31
      dsimp only [lt]
      rw [bnd_t b1]
      dsimp only
      rw [xWk.tw b3, bnd_t p1]
      dsimp only
      rw [xWk.tw (b3.tr p3)] at d1
      rw [xWk.tw (b3.tr p3), bnd_t d1]
      dsimp only
      rw [bnd_t e1]
      dsimp only
      rw [xWk.tw (b3.tr p3)] at f1
      rw [xWk.tw (((b3.tr p3).tr d3).tr e3), bnd_t f1]
      dsimp only
      rw [p2.2.1, f2.2.1]
    · show fX12_confessing 5000 (nI g) (nI c) SM = _
      rw [hM, decide_eq_true h5]
      show fX12_confessing_b47 5000 (nI g) (nI c) S1 = _
      unfold fX12_confessing_b47
      rw [bnd_t k1]
      dsimp only
      rw [bnd_t r1]
      dsimp only
      rw [chk_t hin, bnd_t u1]
      dsimp only
      rw [bnd_t v1]
      dsimp only
      rw [bnd_t w1]
      dsimp only
      rw [chk_t hin, bnd_t y1, hgc, (r2.2.2.2.2 g hg).1, (w2.2.2.2.2 g hg).1]
      dsimp only
      rw [upq_s]
    · dsimp only
      rw [y3, w3 99 4 rfl, v4 99 4 rfl, u3, r3 99 4 rfl]
      exact k7
end

/-! part 52.atohire -/
section
/-! toHire -/
noncomputable def elH (qs : Nat → qT) (n1 g k : Nat) : Bool := decide (hoR (fun g => (qs g).2.2.2) (nI k) n1 0 = -1 ∨ hoR (fun g => (qs g).2.2.2) (nI k) n1 0 = nI g)
noncomputable def vaH (Z : gS) (d : Int32) (h c g : Nat) (q : qT) (k : Nat) : Int32 := (trj Z (Z 5 g) d (wetZ Z) h (q.1, q.2.1, q.2.2.1, nI k) c).1
noncomputable def thR (el : Nat → Bool) (va : Nat → Int32) : Nat → Int32 × Int32
  | 0 => (-1, -1)
  | k + 1 => if el k = true then (if (thR el va k).1 = -1 then (nI k, va k) else if (thR el va k).2 ≤ va k then thR el va k else (nI k, va k)) else thR el va k
theorem elH_q {Z : gS} {e : Nat → Int32} {qs : Nat → qT} {g k : Nat} (Zk : tOK Z) (K : qsOK Z e qs) (hg : g < tn1 Z) (hk : k < tn0 Z) (he : elH qs (tn1 Z) g k = true) : qOK (tn0 Z) ((qs g).1, (qs g).2.1, (qs g).2.2.1, nI k) ∧ ∀ g', g' < tn1 Z → g' ≠ g → (qs g').2.2.2 ≠ nI k := by
  have z6 := Zk.2.1.2
  have z8 := Zk.1.2
  obtain ⟨a, b, c, -⟩ := K.1 g hg
  refine ⟨⟨a, b, c, Or.inr ⟨k, hk, rfl⟩⟩, fun g' hg' hne hh => ?_⟩
  unfold elH at he
  rw [decide_eq_true_iff] at he
  rcases hoR_cases (r := fun g => (qs g).2.2.2) (x := nI k) (tn1 Z) 0 with ⟨o1, o2⟩ | ⟨g0, -, g1, o2, o1⟩
  · exact o2 g' (by omega) (by omega) hh
  · have e1 : g0 = g' := K.2.1 g0 g' (by omega) hg' (o2.trans hh.symm) (by
      rw [o2]
      exact nI_nem (by omega))
    rw [o1] at he
    rcases he with he | he
    · exact nI_nem (by omega) he
    · have := (nI_eq (by omega) (by omega)).mp he
      omega
theorem x_toHire_h {Z SX : gS} {h c g : Nat} {d x3 : Int32} {qs : Nat → qT} (Zk : tOK Z) (C : cSit 21 Z SX h d qs) (K : qsOK Z (Z 5) qs) (hg : g < tn1 Z) (h9 : h ≤ 999) (hc : c ≤ 60) : Gv (fX11_toHire_h26 5000 5000 (nI g) (nI c) x3 (-1) (-1) 0 SX) (fun r => r.1 = 0 ∧ r.2.1 = (if x3 = 0 then (thR (elH qs (tn1 Z) g) (vaH Z d h c g (qs g)) (tn0 Z)).1 else (thR (elH qs (tn1 Z) g) (vaH Z d h c g (qs g)) (tn0 Z)).2) ∧ xSame SX r.2.2) := by
  have z6 := Zk.2.1.2
  have z8 := Zk.1.2
  refine loopG (A := gS) (fun f k S => fX11_toHire_h26 5000 f (nI g) (nI c) x3 (thR (elH qs (tn1 Z) g) (vaH Z d h c g (qs g)) k).1 (thR (elH qs (tn1 Z) g) (vaH Z d h c g (qs g)) k).2 (nI k) S) (fun k S => oSame xWk SX S) _ (tn0 Z) ?_ ?_ (tn0 Z) 0 SX 5000 (by omega) oSame.rf (by omega)
  · intro f S i1
    refine ⟨(0, (if x3 = 0 then (thR (elH qs (tn1 Z) g) (vaH Z d h c g (qs g)) (tn0 Z)).1 else (thR (elH qs (tn1 Z) g) (vaH Z d h c g (qs g)) (tn0 Z)).2), S), ?_, rfl, rfl, xWk.same i1⟩
    show fX11_toHire_b26 5000 _ (nI g) (nI c) x3 _ _ (nI (tn0 Z)) S = _
    unfold fX11_toHire_b26
    dsimp only [lt]
    have C' := C.on (Or.inl rfl) i1
    rw [show S (xtw S) 0 = nI (tn0 Z) from (C'.1 0 0 (by omega) (by omega)).trans Zk.1.1, if_pos (nI_le (Nat.le_refl _) (by omega))]
    unfold fX11_toHire_b145
    by_cases hx : x3 = 0
    · rw [if_pos hx, if_pos hx]; rfl
    · rw [if_neg hx, if_neg hx]; rfl
  · intro f k S hk i1
    refine Or.inr ?_
    have C' := C.on (Or.inl rfl) i1
    obtain ⟨o, ho⟩ : ∃ z, z = hoR (fun g => (qs g).2.2.2) (nI k) (tn1 Z) 0 := ⟨_, rfl⟩
    obtain ⟨b, hb⟩ : ∃ z, z = (thR (elH qs (tn1 Z) g) (vaH Z d h c g (qs g)) k).1 := ⟨_, rfl⟩
    obtain ⟨s, hs⟩ : ∃ z, z = (thR (elH qs (tn1 Z) g) (vaH Z d h c g (qs g)) k).2 := ⟨_, rfl⟩
    have hF : fX11_toHire_h26 5000 (f + 1) (nI g) (nI c) x3 b s (nI k) S = if o = -1 then fX11_toHire_b68 5000 (fX11_toHire_h26 5000 f) (nI g) (nI c) x3 b s (nI k) S else if o = nI g then fX11_toHire_b68 5000 (fX11_toHire_h26 5000 f) (nI g) (nI c) x3 b s (nI k) S else fX11_toHire_b139 5000 (fX11_toHire_h26 5000 f) (nI g) (nI c) x3 b s (nI k) S := by
      show fX11_toHire_b26 5000 (fX11_toHire_h26 5000 f) (nI g) (nI c) x3 b s (nI k) S = _
      unfold fX11_toHire_b26
      dsimp only [lt]
      rw [show S (xtw S) 0 = nI (tn0 Z) from (C'.1 0 0 (by omega) (by omega)).trans Zk.1.1, if_neg (nI_ge hk (by omega))]
      unfold fX11_toHire_b38
      dsimp only [lt]
      rw [bnd_t (x_holderOf (N := 5000) (n := tn1 Z) (show S (xtw S) 5 = nI (tn1 Z) from (C'.1 0 5 (by omega) (by omega)).trans Zk.2.1.1) z6 (by decide)), hoR_eq (r := S (21 + 4)) (r' := fun g => (qs g).2.2.2) (tn1 Z) 0 (fun i _ hi => (C'.2.2.2 i (by omega)).2.2.2), ← ho]
      rfl
    cases hel : elH qs (tn1 Z) g k with
    | false =>
      refine ⟨S, i1, ?_⟩
      have he : ¬ (o = -1 ∨ o = nI g) := by
        unfold elH at hel
        rw [decide_eq_false_iff_not, ← ho] at hel
        exact hel
      have eT : thR (elH qs (tn1 Z) g) (vaH Z d h c g (qs g)) (k + 1) = thR (elH qs (tn1 Z) g) (vaH Z d h c g (qs g)) k := if_neg (by rw [hel]; decide)
      show fX11_toHire_h26 5000 (f + 1) (nI g) (nI c) x3 _ _ (nI k) S = fX11_toHire_h26 5000 f (nI g) (nI c) x3 _ _ (nI (k + 1)) S
      rw [eT, ← hb, ← hs, hF, if_neg (fun q => he (Or.inl q)), if_neg (fun q => he (Or.inr q))]
      unfold fX11_toHire_b139
      rw [nI_1]
    | true =>
      have he : o = -1 ∨ o = nI g := by
        unfold elH at hel
        rw [decide_eq_true_iff, ← ho] at hel
        exact hel
      obtain ⟨hq, -⟩ := elH_q Zk K hg hk hel
      obtain ⟨X1, b1, b2, b3⟩ := x_begin (N := 5000) (Or.inl rfl) Zk C' hg (by omega)
      have b4 : oSame xWk S (sU X1 51 4 (nI k)) := b3.up rfl
      have b5 : wkA (sU X1 51 4 (nI k)) (Z 5 g) d (nI h) ((qs g).1, (qs g).2.1, (qs g).2.2.1, nI k) := by
        obtain ⟨w0, w1, w2, w3, w4, w5, w7⟩ := b2
        refine ⟨?_, ?_, ?_, ?_, sU_s, ?_, ?_⟩ <;> rw [sU_n (by omega)] <;> assumption
      obtain ⟨X2, p1, p2, p3⟩ := x_passHours (N := 5000) (n := c) xtw_cases Zk (C'.1.on xtw_cases b4) hq (K.2.2 g hg) b5 (by omega) (by omega) (by decide)
      have hF2 : fX11_toHire_h26 5000 (f + 1) (nI g) (nI c) x3 b s (nI k) S = if b = -1 then fX11_toHire_b126 5000 (fX11_toHire_h26 5000 f) (nI g) (nI c) x3 (nI k) X2 else fX11_toHire_b114 5000 (fX11_toHire_h26 5000 f) (nI g) (nI c) x3 b s (nI k) X2 := by
        rw [hF]
        have e68 : fX11_toHire_b68 5000 (fX11_toHire_h26 5000 f) (nI g) (nI c) x3 b s (nI k) S = if b = -1 then fX11_toHire_b126 5000 (fX11_toHire_h26 5000 f) (nI g) (nI c) x3 (nI k) X2 else fX11_toHire_b114 5000 (fX11_toHire_h26 5000 f) (nI g) (nI c) x3 b s (nI k) X2 := by
          unfold fX11_toHire_b68
          dsimp only [lt]
          rw [bnd_t b1]
          dsimp only
          rw [xWk.tw b4, bnd_t p1]
        by_cases h1 : o = -1
        · rw [if_pos h1, e68]
        · rw [if_neg h1, if_pos (he.resolve_left h1), e68]
      have e51 : X2 51 1 = vaH Z d h c g (qs g) k := p2.2.1
      refine ⟨X2, (i1.tr b4).tr p3, ?_⟩
      show fX11_toHire_h26 5000 (f + 1) (nI g) (nI c) x3 _ _ (nI k) S = fX11_toHire_h26 5000 f (nI g) (nI c) x3 _ _ (nI (k + 1)) X2
      have eT : thR (elH qs (tn1 Z) g) (vaH Z d h c g (qs g)) (k + 1) = if (thR (elH qs (tn1 Z) g) (vaH Z d h c g (qs g)) k).1 = -1 then (nI k, vaH Z d h c g (qs g) k) else if (thR (elH qs (tn1 Z) g) (vaH Z d h c g (qs g)) k).2 ≤ vaH Z d h c g (qs g) k then thR (elH qs (tn1 Z) g) (vaH Z d h c g (qs g)) k else (nI k, vaH Z d h c g (qs g) k) := if_pos hel
      rw [← hb, ← hs] at eT
      rw [← hb, ← hs, hF2]
      by_cases h1 : b = -1
      · rw [if_pos h1] at eT ⊢
        rw [eT]
        unfold fX11_toHire_b126 fX11_toHire_b139
        rw [nI_1, e51]
      · rw [if_neg h1] at eT ⊢
        unfold fX11_toHire_b114
        rw [e51]
        by_cases h2 : s ≤ vaH Z d h c g (qs g) k
        · rw [if_pos h2] at eT ⊢
          rw [eT, ← hb, ← hs]
          unfold fX11_toHire_b139
          rw [nI_1]
        · rw [if_neg h2] at eT ⊢
          rw [eT]
          unfold fX11_toHire_b126 fX11_toHire_b139
          rw [nI_1, e51]
theorem i32_lt1000 {x : Int32} (h : x ≤ 99) : x < 1000 := by
  rw [Int32.lt_iff_toInt_lt]
  rw [Int32.le_iff_toInt_le] at h
  have e1 : (99 : Int32).toInt = 99 := rfl
  have e2 : (1000 : Int32).toInt = 1000 := rfl
  omega
theorem m_toHire_h {Z S1 S2 : gS} {h c g : Nat} {d x3 : Int32} {qs : Nat → qT} (Zk : tOK Z) (K : qsOK Z (Z 5) qs) (hg : g < tn1 Z) (h9 : h ≤ 999) (hc : c ≤ 60) (M : mSit Z S1 h d (Z 5) qs) (w41 : S1 99 41 = -1) (c0 : S2 99 4 = 0) (s12 : mSame S1 S2) (E : ∀ S, (∀ j, S 46 j = S2 46 j) → oSame mQ S1 S → ∃ S4, fX12_unpack 5000 46 0 S = some (0, S4) ∧ mSame S1 S4 ∧ S4 99 4 = S 99 4 ∧ ∀ i j, S4 i j = if mPk i j = true then S1 i j else S i j) : Gv (fX12_toHire_h66 5000 5000 (nI g) (nI c) x3 (-1) 1000 0 S2) (fun r => r.1 = (if x3 = 0 then (thR (elH qs (tn1 Z) g) (vaH Z d h c g (qs g)) (tn0 Z)).1 else (thR (elH qs (tn1 Z) g) (vaH Z d h c g (qs g)) (tn0 Z)).2) ∧ mSame S1 r.2 ∧ r.2 99 4 = 0) := by
  have z6 := Zk.2.1.2
  have z8 := Zk.1.2
  have hgc : (nI g).toNatClampNeg = g := nI_clamp (by omega)
  have hin : inb (nI g) 6 = true := inb_t (by omega) (by decide)
  obtain ⟨th, hth⟩ : ∃ z, z = thR (elH qs (tn1 Z) g) (vaH Z d h c g (qs g)) := ⟨_, rfl⟩
  have thm : ∀ k, k ≤ tn0 Z → (th k).1 = -1 → (th k).2 = -1 := by
    intro k
    rw [hth]
    induction k with
    | zero => intro _ _; rfl
    | succ k ih =>
      intro hk hk1
      have eT : thR (elH qs (tn1 Z) g) (vaH Z d h c g (qs g)) (k + 1) = if elH qs (tn1 Z) g k = true then (if (thR (elH qs (tn1 Z) g) (vaH Z d h c g (qs g)) k).1 = -1 then (nI k, vaH Z d h c g (qs g) k) else if (thR (elH qs (tn1 Z) g) (vaH Z d h c g (qs g)) k).2 ≤ vaH Z d h c g (qs g) k then thR (elH qs (tn1 Z) g) (vaH Z d h c g (qs g)) k else (nI k, vaH Z d h c g (qs g) k)) else thR (elH qs (tn1 Z) g) (vaH Z d h c g (qs g)) k := rfl
      by_cases he : elH qs (tn1 Z) g k = true
      · rw [if_pos he] at eT
        by_cases h1 : (thR (elH qs (tn1 Z) g) (vaH Z d h c g (qs g)) k).1 = -1
        · rw [if_pos h1] at eT
          rw [eT] at hk1
          exact absurd hk1 (nI_nem (by omega))
        · rw [if_neg h1] at eT
          by_cases h2 : (thR (elH qs (tn1 Z) g) (vaH Z d h c g (qs g)) k).2 ≤ vaH Z d h c g (qs g) k
          · rw [if_pos h2] at eT
            rw [eT] at hk1
            exact absurd hk1 h1
          · rw [if_neg h2] at eT
            rw [eT] at hk1
            exact absurd hk1 (nI_nem (by omega))
      · rw [if_neg he] at eT
        rw [eT] at hk1 ⊢
        exact ih (by omega) hk1
  rw [← hth]
  have th0 : th 0 = (-1, -1) := by
    rw [hth]
    rfl
  suffices L : Gv (fX12_toHire_h66 5000 5000 (nI g) (nI c) x3 (th 0).1 (if (th 0).1 = -1 then 1000 else (th 0).2) 0 S2) (fun r => r.1 = (if x3 = 0 then (th (tn0 Z)).1 else (th (tn0 Z)).2) ∧ mSame S1 r.2 ∧ r.2 99 4 = 0) by
    rw [th0] at L
    exact L
  refine loopG (A := gS) (fun f k S => fX12_toHire_h66 5000 f (nI g) (nI c) x3 (th k).1 (if (th k).1 = -1 then 1000 else (th k).2) (nI k) S) (fun k S => mSame S1 S ∧ S 99 4 = 0 ∧ ∀ j, S 46 j = S2 46 j) _ (tn0 Z) ?_ ?_ (tn0 Z) 0 S2 5000 (by omega) ⟨s12, c0, fun _ => rfl⟩ (by omega)
  · rintro f S ⟨i1, i2, i3⟩
    have M' := M.on i1
    refine ⟨((if x3 = 0 then (th (tn0 Z)).1 else (th (tn0 Z)).2), S), ?_, rfl, i1, i2⟩
    show fX12_toHire_b66 5000 _ (nI g) (nI c) x3 _ _ (nI (tn0 Z)) S = _
    unfold fX12_toHire_b66
    rw [M'.1.1, if_pos (nI_le (Nat.le_refl _) (by omega))]
    unfold fX12_toHire_b154
    by_cases hx : x3 = 0
    · rw [if_pos hx, if_pos hx]; rfl
    · rw [if_neg hx, if_neg hx]
      unfold fX12_toHire_b158
      by_cases h1 : (th (tn0 Z)).1 = -1
      · rw [if_pos h1, thm _ (Nat.le_refl _) h1]
        unfold fX12_toHire_b164
        rw [h1]
        rfl
      · rw [if_neg h1, if_neg h1]
        rfl
  · rintro f k S hk ⟨i1, i2, i3⟩
    have M' := M.on i1
    refine Or.inr ?_
    obtain ⟨o, ho⟩ : ∃ z, z = hoR (fun g => (qs g).2.2.2) (nI k) (tn1 Z) 0 := ⟨_, rfl⟩
    have hF : ∀ b s, fX12_toHire_h66 5000 (f + 1) (nI g) (nI c) x3 b s (nI k) S = if o = -1 then fX12_toHire_b100 5000 (fX12_toHire_h66 5000 f) (nI g) (nI c) x3 b s (nI k) S else if o = nI g then fX12_toHire_b100 5000 (fX12_toHire_h66 5000 f) (nI g) (nI c) x3 b s (nI k) S else fX12_toHire_b97 5000 (fX12_toHire_h66 5000 f) (nI g) (nI c) x3 b s (nI k) S := by
      intro b s
      show fX12_toHire_b66 5000 (fX12_toHire_h66 5000 f) (nI g) (nI c) x3 b s (nI k) S = _
      unfold fX12_toHire_b66
      rw [M'.1.1, if_neg (nI_ge hk (by omega))]
      unfold fX12_toHire_b77
      rw [bnd_t (m_hirerOf (N := 5000) (n := tn1 Z) M'.1.2.1 z6 (by decide)), hoR_eq (r := S 35) (r' := fun g => (qs g).2.2.2) (tn1 Z) 0 (fun i _ hi => (M'.2.2.2.2 i (by omega)).2.2.2), ← ho]
      rfl
    have eT : th (k + 1) = if elH qs (tn1 Z) g k = true then (if (th k).1 = -1 then (nI k, vaH Z d h c g (qs g) k) else if (th k).2 ≤ vaH Z d h c g (qs g) k then th k else (nI k, vaH Z d h c g (qs g) k)) else th k := by
      rw [hth]
      rfl
    cases hel : elH qs (tn1 Z) g k with
    | false =>
      refine ⟨S, ⟨i1, i2, i3⟩, ?_⟩
      have he : ¬ (o = -1 ∨ o = nI g) := by
        unfold elH at hel
        rw [decide_eq_false_iff_not, ← ho] at hel
        exact hel
      rw [hel, if_neg (by decide)] at eT
      show fX12_toHire_h66 5000 (f + 1) (nI g) (nI c) x3 _ _ (nI k) S = fX12_toHire_h66 5000 f (nI g) (nI c) x3 _ _ (nI (k + 1)) S
      rw [eT, hF, if_neg (fun q => he (Or.inl q)), if_neg (fun q => he (Or.inr q))]
      unfold fX12_toHire_b97 fX12_toHire_b148
      rw [nI_1]
    | true =>
      have he : o = -1 ∨ o = nI g := by
        unfold elH at hel
        rw [decide_eq_true_iff, ← ho] at hel
        exact hel
      rw [hel, if_pos rfl] at eT
      obtain ⟨hq, hu⟩ := elH_q Zk K hg hk hel
      obtain ⟨m1, m2, m3, m4⟩ := M'.2.2.2.2 g hg
      have M2 : mSit Z (sU S 35 g (nI k)) h d (Z 5) (upq qs g ((qs g).1, (qs g).2.1, (qs g).2.2.1, nI k)) := M'.up (fun i j hij => sU_n (by omega)) (by rw [sU_n (by omega)]; exact m1) (by rw [sU_n (by omega)]; exact m2) (by rw [sU_n (by omega)]; exact m3) sU_s
      have s35 : oSame mHo S (sU S 35 g (nI k)) := mHo_of (g := g) (by omega) (fun i j hij => sU_n (by omega))
      obtain ⟨S3, r1, r2, r3⟩ := m_goOn (N := 5000) (n := c) Zk (K.up hq (Or.inr hu)).h (by omega) (by decide) (by omega) M2 (by rw [s35 99 41 rfl, i1 99 41 rfl]; exact w41)
      obtain ⟨S4, u1, u2, u3, u4⟩ := E S3 (fun j => by rw [r3 46 j rfl, s35 46 j rfl]; exact i3 j) (i1.q.tr (s35.q.tr r3.q))
      have e32 : S3 32 g = vaH Z d h c g (qs g) k := by
        have := (r2.2.2.2.2 g hg).1
        rw [this]
        dsimp only
        rw [upq_s]
        rfl
      have hF2 : ∀ b s, fX12_toHire_h66 5000 (f + 1) (nI g) (nI c) x3 b s (nI k) S = if vaH Z d h c g (qs g) k < s then fX12_toHire_b140 5000 (fX12_toHire_h66 5000 f) (nI g) (nI c) x3 (nI k) (vaH Z d h c g (qs g) k) S4 else fX12_toHire_b137 5000 (fX12_toHire_h66 5000 f) (nI g) (nI c) x3 b s (nI k) S4 := by
        intro b s
        have e100 : fX12_toHire_b100 5000 (fX12_toHire_h66 5000 f) (nI g) (nI c) x3 b s (nI k) S = if vaH Z d h c g (qs g) k < s then fX12_toHire_b140 5000 (fX12_toHire_h66 5000 f) (nI g) (nI c) x3 (nI k) (vaH Z d h c g (qs g) k) S4 else fX12_toHire_b137 5000 (fX12_toHire_h66 5000 f) (nI g) (nI c) x3 b s (nI k) S4 := by
          unfold fX12_toHire_b100
          dsimp only [lt]
          rw [chk_t hin, hgc, bnd_t r1]
          dsimp only
          rw [chk_t hin, bnd_t u1]
          simp only [e32]
        rw [hF]
        by_cases h1 : o = -1
        · rw [if_pos h1, e100]
        · rw [if_neg h1, if_pos (he.resolve_left h1), e100]
      refine ⟨S4, ⟨u2, ?_, fun j => ?_⟩, ?_⟩
      · rw [u3, r3 99 4 rfl, s35 99 4 rfl]; exact i2
      · rw [u4 46 j]
        show S3 46 j = S2 46 j
        rw [r3 46 j rfl, s35 46 j rfl]; exact i3 j
      · show fX12_toHire_h66 5000 (f + 1) (nI g) (nI c) x3 _ _ (nI k) S = fX12_toHire_h66 5000 f (nI g) (nI c) x3 _ _ (nI (k + 1)) S4
        have hv : vaH Z d h c g (qs g) k < 1000 := i32_lt1000 (trj_ok (Z := Z) (d := d) (wf := wetZ Z) (h := h) hq (K.2.2 g hg) c).1.2
        rw [hF2]
        by_cases h1 : (th k).1 = -1
        · rw [if_pos h1] at eT ⊢
          rw [if_pos hv, eT, if_neg (nI_nem (by omega))]
          unfold fX12_toHire_b140 fX12_toHire_b148
          rw [nI_1]
        · rw [if_neg h1] at eT ⊢
          by_cases h2 : (th k).2 ≤ vaH Z d h c g (qs g) k
          · rw [if_pos h2] at eT
            rw [if_neg (Int32.not_lt.mpr h2), eT, if_neg h1]
            unfold fX12_toHire_b137 fX12_toHire_b148
            rw [nI_1]
          · rw [if_neg h2] at eT
            rw [if_pos (Int32.not_le.mp h2), eT, if_neg (nI_nem (by omega))]
            unfold fX12_toHire_b140 fX12_toHire_b148
            rw [nI_1]
theorem st_toHire : Lw_toHire JJ := by
  intro SX SM x1 x2 x3 hJ
  obtain ⟨S1, Z, h, qs, hS1, c0, hJ1, Zk, h9, C, M, K, w41, x0, x5⟩ := pre hJ
  have z6 := Zk.2.1.2
  have hF : fX12_toHire 5000 x1 x2 x3 SM = if iv (inb x1 (tn1 Z)) = 0 then fX12_toHire_b22 5000 S1 else fX12_toHire_b13 5000 x1 x2 x3 S1 := by
    unfold fX12_toHire fX12_toHire_b0
    dsimp only [lt]
    rw [← hS1, bnd_t (m_isGuild M.1.2.1 (by omega))]
  have hH : fX12_toHire_b28 5000 x1 x2 x3 S1 = if iv (wth x2 1 60) = 0 then fX12_toHire_b40 5000 S1 else fX12_toHire_b46 5000 x1 x2 x3 S1 := by
    unfold fX12_toHire_b28
    rw [bnd_t in_1_60]
  cases h1 : inb x1 (tn1 Z) with
  | false =>
    refine stFl 5000 5000 1 hJ one_ne (Or.inr (Or.inl rfl)) (ngF x5 (by omega) h1) ?_
    show fX12_toHire 5000 x1 x2 x3 SM = _
    rw [hF, h1, ← hS1]
    rfl
  | true =>
  cases h3 : wth x3 0 1 with
  | false =>
    refine stFl 5000 5000 1 hJ one_ne (Or.inr (Or.inl rfl)) ((ngT x5 (by omega) h1).trans (nwF h3)) ?_
    show fX12_toHire 5000 x1 x2 x3 SM = _
    rw [hF, h1, ← hS1]
    show fX12_toHire_b13 5000 x1 x2 x3 S1 = _
    unfold fX12_toHire_b13
    rcases w01F h3 with q | ⟨q1, q2⟩
    · rw [if_pos q]
      rfl
    · rw [if_neg q1]
      unfold fX12_toHire_b17
      rw [if_neg q2]
      rfl
  | true =>
  obtain ⟨y1, y2, -⟩ := w01T h3
  have hG : fX12_toHire 5000 x1 x2 x3 SM = fX12_toHire_b28 5000 x1 x2 x3 S1 := by
    rw [hF, h1]
    show fX12_toHire_b13 5000 x1 x2 x3 S1 = _
    unfold fX12_toHire_b13
    rw [if_neg y1]
    unfold fX12_toHire_b17
    rw [if_pos y2]
  cases h2 : wth x2 1 60 with
  | false =>
    refine stFl 5000 5000 2 hJ two_ne (Or.inr (Or.inr rfl)) (((ngT x5 (by omega) h1).trans (nwT h3)).trans (niF h2)) ?_
    show fX12_toHire 5000 x1 x2 x3 SM = _
    rw [hG, hH, h2, ← hS1]
    rfl
  | true =>
  obtain ⟨g, hg, rfl⟩ := inb_of h1 (by omega)
  obtain ⟨c, -, c2, rfl⟩ := wth_of (a := 1) (b := 60) (by decide) (by decide) h2
  obtain ⟨S2, k1, k2, k3, k5, k7, k6, k4⟩ := q_go M w41 c0
  refine stSu 5000 5000 (if x3 = 0 then (thR (elH qs (tn1 Z) g) (vaH Z (SX 21 1) h c g (qs g)) (tn0 Z)).1 else (thR (elH qs (tn1 Z) g) (vaH Z (SX 21 1) h c g (qs g)) (tn0 Z)).2) hJ rfl (Or.inl rfl) ?_ ?_
  · have e : fX11_toHire 5000 (nI g) (nI c) x3 SX = fX11_toHire_h26 5000 5000 (nI g) (nI c) x3 (-1) (-1) 0 SX := ((ngT x5 (by omega) h1).trans (nwT h3)).trans (niT h2)
    show Gv (fX11_toHire 5000 (nI g) (nI c) x3 SX) _
    rw [e]
    exact x_toHire_h Zk C K hg h9 c2
  · have e : fX12_toHire 5000 (nI g) (nI c) x3 SM = fX12_toHire_h66 5000 5000 (nI g) (nI c) x3 (-1) 1000 0 S2 := by
      rw [hG, hH, h2]
      show fX12_toHire_b46 5000 (nI g) (nI c) x3 S1 = _
      unfold fX12_toHire_b46
      rw [bnd_t k1]
    show Gv (fX12_toHire 5000 (nI g) (nI c) x3 SM) _
    rw [e, ← hS1]
    exact m_toHire_h Zk K hg h9 c2 M w41 k7 k5 k6
end

/-! part 53.aacts -/
section
/-! ACTS: what both sides keep -/
noncomputable def xNw (i j : Nat) : Bool := xScr i j || (21 ≤ i && i ≤ 25)
theorem jSt_of {Z SX SM : gS} {h : Nat} {d : Int32} {e : Nat → Int32} {qs : Nat → qT} (C : cSit 21 Z SX h d qs) (M : mSit Z SM h d e qs) (K : qsOK Z e qs) (h9 : h ≤ 999) : jSt (tn0 Z) (tn1 Z) (xSt 21 SX) (mSt SM) := by
  obtain ⟨c1, c2, c3, c4⟩ := C
  obtain ⟨m1, m2, m3, m4, m5⟩ := M
  refine ⟨⟨h, h9, c2, m3⟩, c3.trans m4.symm, fun g hg => ?_, fun g hg => ?_, fun g g' hg hg' => ?_⟩
  · obtain ⟨a1, a2, a3, a4⟩ := c4 g hg
    obtain ⟨b1, b2, b3, b4⟩ := m5 g hg
    exact ⟨a1.trans b1.symm, a2.trans b2.symm, a3.trans b3.symm, a4.trans b4.symm⟩
  · obtain ⟨b1, b2, b3, b4⟩ := m5 g hg
    show (0 ≤ SM 32 g ∧ SM 32 g ≤ 99) ∧ (0 ≤ SM 33 g ∧ SM 33 g ≤ 999) ∧ (0 ≤ SM 34 g ∧ SM 34 g ≤ 999) ∧ (SM 35 g = -1 ∨ ∃ k : Nat, k < tn0 Z ∧ SM 35 g = nI k)
    rw [b1, b2, b3, b4]
    exact K.1 g hg
  · show SM 35 g = SM 35 g' → SM 35 g ≠ -1 → g = g'
    rw [(m5 g hg).2.2.2, (m5 g' hg').2.2.2]
    exact K.2.1 g g' hg hg'
theorem xNw.act {S S' : gS} (s : oSame xNw S S') : oSame xAct S S' := fun i j h => s i j (by
  unfold xAct at h
  rw [Bool.or_eq_false_iff, Bool.or_eq_false_iff] at h
  unfold xNw
  rw [h.1.1, Bool.false_or]
  have h2 := h.1.2
  simp only [Bool.and_eq_false_iff, decide_eq_false_iff_not] at h2 ⊢
  omega)
theorem mQ.act {S S' : gS} (s : oSame mQ S S') : oSame mAct S S' := fun i j h => s i j (by
  unfold mAct at h
  simp only [Bool.or_eq_false_iff] at h
  obtain ⟨⟨⟨⟨⟨h1, h2⟩, h3⟩, h4⟩, h5⟩, h6⟩ := h
  unfold mQ
  rw [h1, Bool.false_or]
  cases hp : mPk i j with
  | false => rfl
  | true =>
    exfalso
    rcases mPk_t.mp hp with ⟨q1, q2, q3⟩ | ⟨rfl, rfl | rfl⟩
    · simp only [Bool.and_eq_false_iff, decide_eq_false_iff_not] at h3
      omega
    · cases h6
    · cases h6)
/-- what is so now is put anew on both sides -/
theorem JJ.now {SX SM SX' SM' Z : gS} {h : Nat} {d : Int32} {qs : Nat → qT} (hJ : JJ SX SM) (x : oSame xNw SX SX') (m : oSame mQ SM SM') (Zk : tOK Z) (C : cSit 21 Z SX' h d qs) (M : mSit Z SM' h d (Z 5) qs) (K : qsOK Z (Z 5) qs) (h9 : h ≤ 999) : JJ SX' SM' := by
  refine hJ.act (xNw.act x) (mQ.act m) (fun n0 n1 hT hN hI => ?_)
  have tw : xtw SX' = xtw SX := by
    unfold xtw
    rw [x 0 7 rfl]
  have e0 : SX (xtw SX) 0 = nI (tn0 Z) := by
    have := (C.1 0 0 (by omega) (by omega)).trans Zk.1.1
    rw [tw] at this
    rw [← this]
    rcases xtw_cases (S := SX) with q | q <;> rw [q] <;> exact (x _ 0 rfl).symm
  have e5 : SX (xtw SX) 5 = nI (tn1 Z) := by
    have := (C.1 0 5 (by omega) (by omega)).trans Zk.2.1.1
    rw [tw] at this
    rw [← this]
    rcases xtw_cases (S := SX) with q | q <;> rw [q] <;> exact (x _ 5 rfl).symm
  obtain ⟨⟨a1, -, a3⟩, ⟨b1, -, b3⟩, -⟩ := hT
  have q0 : n0 = tn0 Z := (nI_eq (by omega) (by have := Zk.1.2; omega)).mp (a1.symm.trans e0)
  have q1 : n1 = tn1 Z := (nI_eq (by omega) (by have := Zk.2.1.2; omega)).mp (b1.symm.trans e5)
  subst q0 q1
  have fm : ∀ i, (∀ j, mQ i j = false) → SM' i = SM i := fun i hi => funext fun j => m i j (hi j)
  refine ⟨?_, hI.on (x 0 8 rfl) (fun i j h1 h2 => x i j ?_) (fun i j h1 h2 => m i j ?_) (m 99 57 rfl) (m 99 58 rfl) (m 99 59 rfl)⟩
  · obtain ⟨-, ⟨a, f1, f2, f3, f4⟩, ⟨q, g1, g2, g3, g4⟩, t⟩ := hN
    have x7 : SX' (20 + 7) = SX (20 + 7) := funext fun j => x 27 j rfl
    have m36 : SM' 36 = SM 36 := fm 36 (fun _ => rfl)
    refine ⟨jSt_of C M K h9, ⟨a, f1, by rw [x (20 + 6) 1 rfl]; exact f2, by rw [m 99 39 rfl]; exact f3, fun i hi => ?_⟩, ⟨q, g1, by rw [x (20 + 8) 3 rfl]; exact g2, by rw [m 99 40 rfl]; exact g3, fun i hi => ?_⟩, fun i hi => ?_⟩
    · refine (f4 i hi).on (fun c g _ _ => ?_) (fun c g _ _ => ?_)
      · unfold xAc
        rw [x7]
      · unfold mAc
        rw [m36]
    · rw [x (20 + 9) i rfl, x (20 + 10) i rfl, x (20 + 11) i rfl, m 48 i rfl, m 49 i rfl, m 50 i rfl]
      exact g4 i hi
    · rw [x (20 + 12) i rfl, m 17 i rfl]
      exact t i hi
  · rcases (show i = 34 ∨ i = 35 ∨ i = 36 ∨ i = 37 ∨ i = 38 ∨ i = 39 ∨ i = 40 ∨ i = 41 ∨ i = 42 ∨ i = 43 ∨ i = 44 ∨ i = 45 by omega) with rfl | rfl | rfl | rfl | rfl | rfl | rfl | rfl | rfl | rfl | rfl | rfl <;> rfl
  · rcases (show i = 60 ∨ i = 61 ∨ i = 62 ∨ i = 63 ∨ i = 64 ∨ i = 65 by omega) with rfl | rfl | rfl | rfl | rfl | rfl <;> rfl
/-! the class writes a row -/
theorem ix4 (a k : Nat) : (nI a + 2) + 4 * nI k = nI (a + 2 + 4 * k) := by rw [show (2 : Int32) = nI 2 from rfl, show (4 : Int32) = nI 4 from rfl, pk_mul, nI_add, nI_add]
theorem ixp (a : Nat) : nI a + 1 = nI (a + 1) ∧ nI a + 2 = nI (a + 2) ∧ nI a + 3 = nI (a + 3) := ⟨nI_add a 1, nI_add a 2, nI_add a 3⟩
/-- the row nd holds from a on what the state st holds in S -/
def xPk (st nd a : Nat) (S S' : gS) : Prop := S' nd a = S st 0 ∧ S' nd (a + 1) = S st 1 ∧ ∀ g, g < 6 → S' nd (a + 2 + 4 * g) = S (st + 1) g ∧ S' nd (a + 2 + 4 * g + 1) = S (st + 2) g ∧ S' nd (a + 2 + 4 * g + 2) = S (st + 3) g ∧ S' nd (a + 2 + 4 * g + 3) = S (st + 4) g
theorem x_write {N st nd a : Nat} {S : gS} (hst : st + 4 < nd) (hm : xN nd = 1040) (h26 : a + 26 ≤ 1040) (hN : 700 < N) : ∃ S', fX7_write N st nd (nI a) S = some (0, S') ∧ (∀ i j, ¬ (i = nd ∧ a ≤ j ∧ j < a + 26) → S' i j = S i j) ∧ xPk st nd a S S' := by
  obtain ⟨S0, e0⟩ : ∃ z, z = sU (sU S nd a (S st 0)) nd (a + 1) (S st 1) := ⟨_, rfl⟩
  have main : Gv (fX7_write_h32 N N st nd (nI a) 0 S0) (fun r => r.1 = 0 ∧ (∀ i j, ¬ (i = nd ∧ a ≤ j ∧ j < a + 26) → r.2 i j = S i j) ∧ xPk st nd a S r.2) := by
    refine loopG (A := gS) (fun f g S => fX7_write_h32 N f st nd (nI a) (nI g) S) (fun g S' => (∀ i j, ¬ (i = nd ∧ a ≤ j ∧ j < a + 26) → S' i j = S i j) ∧ S' nd a = S st 0 ∧ S' nd (a + 1) = S st 1 ∧ ∀ g', g' < g → S' nd (a + 2 + 4 * g') = S (st + 1) g' ∧ S' nd (a + 2 + 4 * g' + 1) = S (st + 2) g' ∧ S' nd (a + 2 + 4 * g' + 2) = S (st + 3) g' ∧ S' nd (a + 2 + 4 * g' + 3) = S (st + 4) g') _ 6 ?_ ?_ 6 0 S0 N (by omega) ⟨fun i j hij => by rw [e0, sU_n (by omega), sU_n (by omega)], by rw [e0, sU_n (by omega), sU_s], by rw [e0, sU_s], fun g' hg' => by omega⟩ (by omega)
    · rintro f S1 ⟨i1, i2, i3, i4⟩
      exact ⟨(0, S1), rfl, rfl, i1, i2, i3, i4⟩
    · rintro f g S1 hg ⟨i1, i2, i3, i4⟩
      refine Or.inr ?_
      have hgc : (nI g).toNatClampNeg = g := nI_clamp (by omega)
      have hin : inb (nI g) 6 = true := inb_t hg (by decide)
      obtain ⟨x1, x2, x3⟩ := ixp (a + 2 + 4 * g)
      obtain ⟨A1, f1⟩ : ∃ z, z = sU S1 nd (a + 2 + 4 * g) (S (st + 1) g) := ⟨_, rfl⟩
      obtain ⟨A2, f2⟩ : ∃ z, z = sU A1 nd (a + 2 + 4 * g + 1) (S (st + 2) g) := ⟨_, rfl⟩
      obtain ⟨A3, f3⟩ : ∃ z, z = sU A2 nd (a + 2 + 4 * g + 2) (S (st + 3) g) := ⟨_, rfl⟩
      obtain ⟨A4, f4⟩ : ∃ z, z = sU A3 nd (a + 2 + 4 * g + 3) (S (st + 4) g) := ⟨_, rfl⟩
      have s4 : ∀ i j, ¬ (i = nd ∧ a + 2 + 4 * g ≤ j ∧ j ≤ a + 2 + 4 * g + 3) → A4 i j = S1 i j := fun i j hij => by rw [f4, sU_n (by omega), f3, sU_n (by omega), f2, sU_n (by omega), f1, sU_n (by omega)]
      refine ⟨A4, ⟨fun i j hij => by rw [s4 i j (by omega)]; exact i1 i j hij, by rw [s4 nd a (by omega)]; exact i2, by rw [s4 nd (a + 1) (by omega)]; exact i3, fun g' hg' => ?_⟩, ?_⟩
      · by_cases hh : g' = g
        · subst hh
          refine ⟨?_, ?_, ?_, ?_⟩
          · rw [f4, sU_n (by omega), f3, sU_n (by omega), f2, sU_n (by omega), f1, sU_s]
          · rw [f4, sU_n (by omega), f3, sU_n (by omega), f2, sU_s]
          · rw [f4, sU_n (by omega), f3, sU_s]
          · rw [f4, sU_s]
        · rw [s4 nd (a + 2 + 4 * g') (by omega), s4 nd (a + 2 + 4 * g' + 1) (by omega), s4 nd (a + 2 + 4 * g' + 2) (by omega), s4 nd (a + 2 + 4 * g' + 3) (by omega)]
          exact i4 g' (by omega)
      · show fX7_write_b32 N (fX7_write_h32 N f) st nd (nI a) (nI g) S1 = _
        unfold fX7_write_b32
        rw [if_neg (show ¬ (6 : Int32) ≤ nI g from nI_ge (b := 6) hg (by decide))]
        unfold fX7_write_b38
        dsimp only [lt]
        rw [ix4, x1, x2, x3, hgc, hm, nI_clamp (n := a + 2 + 4 * g) (by omega), nI_clamp (n := a + 2 + 4 * g + 1) (by omega), nI_clamp (n := a + 2 + 4 * g + 2) (by omega), nI_clamp (n := a + 2 + 4 * g + 3) (by omega)]
        rw [chk_t hin, chk_t (inb_t (k := a + 2 + 4 * g) (by omega) (by decide)), i1 (st + 1) g (by omega), ← f1, chk_t hin, chk_t (inb_t (k := a + 2 + 4 * g + 1) (by omega) (by decide)), show A1 (st + 2) g = S (st + 2) g by rw [f1, sU_n (by omega)]; exact i1 _ _ (by omega), ← f2, chk_t hin, chk_t (inb_t (k := a + 2 + 4 * g + 2) (by omega) (by decide)), show A2 (st + 3) g = S (st + 3) g by rw [f2, sU_n (by omega), f1, sU_n (by omega)]; exact i1 _ _ (by omega), ← f3, chk_t hin, chk_t (inb_t (k := a + 2 + 4 * g + 3) (by omega) (by decide)), show A3 (st + 4) g = S (st + 4) g by rw [f3, sU_n (by omega), f2, sU_n (by omega), f1, sU_n (by omega)]; exact i1 _ _ (by omega), ← f4, nI_1]
  obtain ⟨⟨v, S'⟩, r1, r2, r3⟩ := main
  dsimp only at r2 r3
  subst r2
  refine ⟨S', ?_, r3⟩
  unfold fX7_write fX7_write_b0
  rw [if_neg (nI_pos (by omega))]
  unfold fX7_write_b4
  rw [show (26 : Int32) = nI 26 from rfl, nI_add, hm, if_pos (show nI (a + 26) ≤ Int32.ofNat 1040 from nI_le (b := 1040) (by omega) (by decide))]
  unfold fX7_write_b14
  dsimp only [lt]
  rw [hm, nI_1, nI_clamp (n := a) (by omega), nI_clamp (n := a + 1) (by omega), chk_t (inb_t (k := a) (by omega) (by decide)), chk_t (inb_t (k := a + 1) (by omega) (by decide)), sU_n (i := st) (by omega), ← e0]
  exact r1
theorem x_read {N st nd a : Nat} {S : gS} (hst : st + 4 < nd) (hm : xN nd = 1040) (h26 : a + 26 ≤ 1040) (hN : 700 < N) : ∃ S', fX7_read N st nd (nI a) S = some (0, S') ∧ (∀ i j, ¬ (i = st ∧ j ≤ 1) → ¬ (st + 1 ≤ i ∧ i ≤ st + 4 ∧ j < 6) → S' i j = S i j) ∧ xPk st nd a S' S := by
  obtain ⟨S0, e0⟩ : ∃ z, z = sU (sU S st 0 (S nd a)) st 1 (S nd (a + 1)) := ⟨_, rfl⟩
  have main : Gv (fX7_read_h32 N N st nd (nI a) 0 S0) (fun r => r.1 = 0 ∧ (∀ i j, ¬ (i = st ∧ j ≤ 1) → ¬ (st + 1 ≤ i ∧ i ≤ st + 4 ∧ j < 6) → r.2 i j = S i j) ∧ xPk st nd a r.2 S) := by
    refine loopG (A := gS) (fun f g S => fX7_read_h32 N f st nd (nI a) (nI g) S) (fun g S' => (∀ i j, ¬ (i = st ∧ j ≤ 1) → ¬ (st + 1 ≤ i ∧ i ≤ st + 4 ∧ j < 6) → S' i j = S i j) ∧ S nd a = S' st 0 ∧ S nd (a + 1) = S' st 1 ∧ ∀ g', g' < g → S nd (a + 2 + 4 * g') = S' (st + 1) g' ∧ S nd (a + 2 + 4 * g' + 1) = S' (st + 2) g' ∧ S nd (a + 2 + 4 * g' + 2) = S' (st + 3) g' ∧ S nd (a + 2 + 4 * g' + 3) = S' (st + 4) g') _ 6 ?_ ?_ 6 0 S0 N (by omega) ⟨fun i j h1 h2 => by rw [e0, sU_n (by omega), sU_n (by omega)], by rw [e0, sU_n (by omega), sU_s], by rw [e0, sU_s], fun g' hg' => by omega⟩ (by omega)
    · rintro f S1 ⟨i1, i2, i3, i4⟩
      exact ⟨(0, S1), rfl, rfl, i1, i2, i3, i4⟩
    · rintro f g S1 hg ⟨i1, i2, i3, i4⟩
      refine Or.inr ?_
      have hgc : (nI g).toNatClampNeg = g := nI_clamp (by omega)
      have hin : inb (nI g) 6 = true := inb_t hg (by decide)
      obtain ⟨x1, x2, x3⟩ := ixp (a + 2 + 4 * g)
      obtain ⟨A1, f1⟩ : ∃ z, z = sU S1 (st + 1) g (S nd (a + 2 + 4 * g)) := ⟨_, rfl⟩
      obtain ⟨A2, f2⟩ : ∃ z, z = sU A1 (st + 2) g (S nd (a + 2 + 4 * g + 1)) := ⟨_, rfl⟩
      obtain ⟨A3, f3⟩ : ∃ z, z = sU A2 (st + 3) g (S nd (a + 2 + 4 * g + 2)) := ⟨_, rfl⟩
      obtain ⟨A4, f4⟩ : ∃ z, z = sU A3 (st + 4) g (S nd (a + 2 + 4 * g + 3)) := ⟨_, rfl⟩
      have s4 : ∀ i j, ¬ (st + 1 ≤ i ∧ i ≤ st + 4 ∧ j = g) → A4 i j = S1 i j := fun i j hij => by rw [f4, sU_n (by omega), f3, sU_n (by omega), f2, sU_n (by omega), f1, sU_n (by omega)]
      refine ⟨A4, ⟨fun i j h1 h2 => by rw [s4 i j (by omega)]; exact i1 i j h1 h2, by rw [s4 st 0 (by omega)]; exact i2, by rw [s4 st 1 (by omega)]; exact i3, fun g' hg' => ?_⟩, ?_⟩
      · by_cases hh : g' = g
        · subst hh
          refine ⟨?_, ?_, ?_, ?_⟩
          · rw [f4, sU_n (by omega), f3, sU_n (by omega), f2, sU_n (by omega), f1, sU_s]
          · rw [f4, sU_n (by omega), f3, sU_n (by omega), f2, sU_s]
          · rw [f4, sU_n (by omega), f3, sU_s]
          · rw [f4, sU_s]
        · rw [s4 (st + 1) g' (by omega), s4 (st + 2) g' (by omega), s4 (st + 3) g' (by omega), s4 (st + 4) g' (by omega)]
          exact i4 g' (by omega)
      · show fX7_read_b32 N (fX7_read_h32 N f) st nd (nI a) (nI g) S1 = _
        unfold fX7_read_b32
        rw [if_neg (show ¬ (6 : Int32) ≤ nI g from nI_ge (b := 6) hg (by decide))]
        unfold fX7_read_b38
        dsimp only [lt]
        rw [ix4, x1, x2, x3, hgc, hm, nI_clamp (n := a + 2 + 4 * g) (by omega), nI_clamp (n := a + 2 + 4 * g + 1) (by omega), nI_clamp (n := a + 2 + 4 * g + 2) (by omega), nI_clamp (n := a + 2 + 4 * g + 3) (by omega)]
        rw [chk_t (inb_t (k := a + 2 + 4 * g) (by omega) (by decide)), chk_t hin, i1 nd (a + 2 + 4 * g) (by omega) (by omega), ← f1, chk_t (inb_t (k := a + 2 + 4 * g + 1) (by omega) (by decide)), chk_t hin, show A1 nd (a + 2 + 4 * g + 1) = S nd (a + 2 + 4 * g + 1) by rw [f1, sU_n (by omega)]; exact i1 _ _ (by omega) (by omega), ← f2, chk_t (inb_t (k := a + 2 + 4 * g + 2) (by omega) (by decide)), chk_t hin, show A2 nd (a + 2 + 4 * g + 2) = S nd (a + 2 + 4 * g + 2) by rw [f2, sU_n (by omega), f1, sU_n (by omega)]; exact i1 _ _ (by omega) (by omega), ← f3, chk_t (inb_t (k := a + 2 + 4 * g + 3) (by omega) (by decide)), chk_t hin, show A3 nd (a + 2 + 4 * g + 3) = S nd (a + 2 + 4 * g + 3) by rw [f3, sU_n (by omega), f2, sU_n (by omega), f1, sU_n (by omega)]; exact i1 _ _ (by omega) (by omega), ← f4, nI_1]
  obtain ⟨⟨v, S'⟩, r1, r2, r3⟩ := main
  dsimp only at r2 r3
  subst r2
  refine ⟨S', ?_, r3⟩
  unfold fX7_read fX7_read_b0
  rw [if_neg (nI_pos (by omega))]
  unfold fX7_read_b4
  rw [show (26 : Int32) = nI 26 from rfl, nI_add, hm, if_pos (show nI (a + 26) ≤ Int32.ofNat 1040 from nI_le (b := 1040) (by omega) (by decide))]
  unfold fX7_read_b14
  dsimp only [lt]
  rw [hm, nI_1, nI_clamp (n := a) (by omega), nI_clamp (n := a + 1) (by omega), chk_t (inb_t (k := a) (by omega) (by decide)), chk_t (inb_t (k := a + 1) (by omega) (by decide)), sU_n (i := nd) (by omega), ← e0]
  exact r1
end

/-! part 54.akeep -/
section
/-! keeping an ACT -/
theorem x_keep {N a : Nat} {S : gS} (ha : S 26 1 = nI a) (h40 : a ≤ 40) (hN : 700 < N) : ∃ S', fX1_keepAct N 20 S = some (0, S') ∧ (∀ i j, i ≠ 27 → ¬ (i = 26 ∧ j = 1) → S' i j = S i j) ∧ S' 26 1 = nI (min (a + 1) 40) ∧ xPk 21 27 (26 * min a 39) S S' ∧ ∀ j, j < 26 * min a 39 → S' 27 j = S 27 (if a = 40 then 26 + j else j) := by
  by_cases h4 : a = 40
  · subst h4
    obtain ⟨S2, e2⟩ : ∃ z, z = sC (sU S 26 1 39) 27 27 26 0 1014 := ⟨_, rfl⟩
    have s2 : ∀ i j, i ≠ 27 → ¬ (i = 26 ∧ j = 1) → S2 i j = S i j := fun i j h1 h2 => by
      rw [e2]
      show (if i = 27 then _ else sU S 26 1 39 i) j = _
      rw [if_neg h1, sU_n (by omega)]
    have s3 : ∀ j, j < 1014 → S2 27 j = S 27 (26 + j) := fun j hj => by
      rw [e2]
      show (if 27 = 27 then va_cpy (sU S 26 1 39 27) (sU S 26 1 39 27) 26 0 1014 else _) j = _
      rw [if_pos rfl, pk_cpy_in (by omega) (by omega), sU_n (by omega), Nat.sub_zero]
    have s4 : S2 26 1 = nI 39 := by
      rw [e2]
      show (if 26 = 27 then _ else sU S 26 1 39 26) 1 = _
      rw [if_neg (by decide), sU_s]
      rfl
    obtain ⟨S3, w1, w2, w3⟩ := x_write (N := N) (st := 21) (nd := 27) (a := 1014) (S := S2) (by decide) rfl (by decide) hN
    refine ⟨sU S3 26 1 (nI 40), ?_, fun i j h1 h2 => ?_, sU_s, ?_, fun j hj => ?_⟩
    · unfold fX1_keepAct fX1_keepAct_b0 fX0_add fX0_add_b0
      rw [show S (20 + 6) 1 = nI 40 from ha, if_neg (by decide)]
      unfold fX0_add_b9
      dsimp only [lt]
      rw [show sU S (20 + 6) 1 39 (20 + 6) 1 = 39 from sU_s, chk_t (by decide)]
      show bnd (fX0_add_b36 N 26 21 (sC (sU S 26 1 39) 27 27 26 0 1014)) _ = _
      rw [← e2]
      unfold fX0_add_b36
      rw [s4, show nI 39 * 26 = nI 1014 from rfl, bnd_t w1]
      dsimp only [lt]
      rw [w2 26 1 (by omega), s4]
      rfl
    · rw [sU_n (by omega), w2 i j (by omega), s2 i j h1 h2]
    · obtain ⟨p1, p2, p3⟩ := w3
      refine ⟨?_, ?_, fun g hg => ?_⟩
      · rw [sU_n (by omega)]
        show S3 27 1014 = S 21 0
        rw [p1, s2 21 0 (by omega) (by omega)]
      · rw [sU_n (by omega)]
        show S3 27 (1014 + 1) = S 21 1
        rw [p2, s2 21 1 (by omega) (by omega)]
      · obtain ⟨q1, q2, q3, q4⟩ := p3 g hg
        rw [sU_n (by omega), sU_n (by omega), sU_n (by omega), sU_n (by omega)]
        refine ⟨?_, ?_, ?_, ?_⟩
        · exact q1.trans (s2 22 g (by omega) (by omega))
        · exact q2.trans (s2 23 g (by omega) (by omega))
        · exact q3.trans (s2 24 g (by omega) (by omega))
        · exact q4.trans (s2 25 g (by omega) (by omega))
    · rw [if_pos rfl, sU_n (by omega), w2 27 j (by omega), s3 j (by omega)]
  · have hm : min a 39 = a := by omega
    rw [hm, show min (a + 1) 40 = a + 1 by omega]
    obtain ⟨S3, w1, w2, w3⟩ := x_write (N := N) (st := 21) (nd := 27) (a := 26 * a) (S := S) (by decide) rfl (by omega) hN
    refine ⟨sU S3 26 1 (nI (a + 1)), ?_, fun i j h1 h2 => ?_, sU_s, ?_, fun j hj => ?_⟩
    · unfold fX1_keepAct fX1_keepAct_b0 fX0_add fX0_add_b0
      rw [show S (20 + 6) 1 = nI a from ha, if_pos (show nI a < 40 from nI_lt (b := 40) (by omega) (by decide))]
      unfold fX0_add_b36
      rw [show S (20 + 6) 1 = nI a from ha, show (26 : Int32) = nI 26 from rfl, pk_mul, Nat.mul_comm a 26]
      show bnd (bnd (fX7_write N 21 27 (nI (26 * a)) S) _) _ = _
      rw [bnd_t w1]
      dsimp only [lt]
      rw [show S3 (20 + 6) 1 = nI a from (w2 26 1 (by omega)).trans ha, nI_1]
      rfl
    · rw [sU_n (by omega), w2 i j (by omega)]
    · obtain ⟨p1, p2, p3⟩ := w3
      refine ⟨by rw [sU_n (by omega)]; exact p1, by rw [sU_n (by omega)]; exact p2, fun g hg => ?_⟩
      rw [sU_n (by omega), sU_n (by omega), sU_n (by omega), sU_n (by omega)]
      exact p3 g hg
    · rw [if_neg h4, sU_n (by omega), w2 27 j (by omega)]
theorem m_keep52 {N a : Nat} {S : gS} (ha : S 99 39 = nI a) (h40 : a < 40) (hN : 700 < N) : ∃ S', fX12_keep_b52 N S = some (0, S') ∧ (∀ i j, ¬ (i = 36 ∧ 26 * a ≤ j ∧ j < 26 * a + 26) → ¬ (i = 99 ∧ j = 39) → S' i j = S i j) ∧ S' 99 39 = nI (a + 1) ∧ pkd 36 (26 * a) S S' := by
  obtain ⟨S2, p1, p2, p3⟩ := m_pack (N := N) (nd := 36) (a := 26 * a) (S := S) (by decide) (by show 26 * a + 26 ≤ 1040; omega) (by decide) (by omega)
  refine ⟨sU S2 99 39 (nI (a + 1)), ?_, fun i j h1 h2 => by rw [sU_n h2, p2 i j h1], sU_s, ?_, ?_, fun g hg => ?_⟩
  · unfold fX12_keep_b52
    rw [ha, show (26 : Int32) = nI 26 from rfl, pk_mul, bnd_t p1]
    dsimp only [lt]
    rw [p2 99 39 (by omega), ha, nI_1]
  · rw [sU_n (by omega)]; exact p3.1
  · rw [sU_n (by omega)]; exact p3.2.1
  · rw [sU_n (by omega), sU_n (by omega), sU_n (by omega), sU_n (by omega)]
    exact p3.2.2 g hg
theorem m_keep {N a : Nat} {S : gS} (ha : S 99 39 = nI a) (h40 : a ≤ 40) (hN : 1040 < N) : ∃ S', fX12_keep N S = some (0, S') ∧ (∀ i j, i ≠ 36 → ¬ (i = 99 ∧ j = 39) → S' i j = S i j) ∧ S' 99 39 = nI (min (a + 1) 40) ∧ pkd 36 (26 * min a 39) S S' ∧ ∀ j, j < 26 * min a 39 → S' 36 j = S 36 (if a = 40 then 26 + j else j) := by
  by_cases h4 : a = 40
  · subst h4
    have main : Gv (fX12_keep_h12 N N 26 S) (fun r => r.1 = 0 ∧ (∀ i j, i ≠ 36 → ¬ (i = 99 ∧ j = 39) → r.2 i j = S i j) ∧ r.2 99 39 = nI 40 ∧ pkd 36 1014 S r.2 ∧ ∀ j, j < 1014 → r.2 36 j = S 36 (26 + j)) := by
      refine loopG (A := gS) (fun f k S => fX12_keep_h12 N f (nI (26 + k)) S) (fun k S' => (∀ i j, i ≠ 36 → S' i j = S i j) ∧ (∀ j, j < k → S' 36 j = S 36 (26 + j)) ∧ ∀ j, k ≤ j → S' 36 j = S 36 j) _ 1014 ?_ ?_ 1014 0 S N (by omega) ⟨fun _ _ _ => rfl, fun j hj => by omega, fun _ _ => rfl⟩ (by omega)
      · rintro f S1 ⟨i1, i2, i3⟩
        show Gv (fX12_keep_b12 N _ (nI 1040) S1) _
        unfold fX12_keep_b12
        rw [if_pos (by decide)]
        unfold fX12_keep_b42
        dsimp only [lt]
        rw [i1 99 39 (by omega), ha, show nI 40 - 1 = nI 39 from rfl]
        obtain ⟨S3, w1, w2, w3, w4⟩ := m_keep52 (N := N) (a := 39) (S := sU S1 99 39 (nI 39)) sU_s (by omega) (by omega)
        refine ⟨(0, S3), w1, rfl, fun i j h1 h2 => ?_, w3, ⟨?_, ?_, fun g hg => ?_⟩, fun j hj => ?_⟩
        · dsimp only
          rw [w2 i j (by omega) h2, sU_n h2, i1 i j h1]
        · exact w4.1.trans (by rw [sU_n (by omega)]; exact i1 99 37 (by omega))
        · exact w4.2.1.trans (by rw [sU_n (by omega)]; exact i1 99 38 (by omega))
        · obtain ⟨q1, q2, q3, q4⟩ := w4.2.2 g hg
          refine ⟨q1.trans ?_, q2.trans ?_, q3.trans ?_, q4.trans ?_⟩
          · rw [sU_n (by omega)]; exact i1 32 g (by omega)
          · rw [sU_n (by omega)]; exact i1 33 g (by omega)
          · rw [sU_n (by omega)]; exact i1 34 g (by omega)
          · rw [sU_n (by omega)]; exact i1 35 g (by omega)
        · dsimp only
          rw [w2 36 j (by omega) (by omega), sU_n (by omega), i2 j hj]
      · rintro f k S1 hk ⟨i1, i2, i3⟩
        refine Or.inr ⟨sU S1 36 k (S 36 (26 + k)), ⟨fun i j h1 => by rw [sU_n (by omega)]; exact i1 i j h1, fun j hj => ?_, fun j hj => by rw [sU_n (by omega)]; exact i3 j (by omega)⟩, ?_⟩
        · by_cases hh : j = k
          · rw [hh, sU_s]
          · rw [sU_n (by omega)]; exact i2 j (by omega)
        · show fX12_keep_b12 N (fX12_keep_h12 N f) (nI (26 + k)) S1 = _
          unfold fX12_keep_b12
          rw [if_neg (show ¬ (1040 : Int32) ≤ nI (26 + k) from nI_ge (b := 1040) (by omega) (by decide))]
          unfold fX12_keep_b21
          have e26 : nI (26 + k) - 26 = nI k := by rw [show (26 : Int32) = nI 26 from rfl, pk_sub (by omega), show 26 + k - 26 = k by omega]
          dsimp only [lt]
          rw [e26, chk_t (inb_t (by omega) (by decide)), chk_t (inb_t (by omega) (by decide)), nI_clamp (n := k) (by omega), nI_clamp (n := 26 + k) (by omega), i3 (26 + k) (by omega), nI_1]
          rfl
    obtain ⟨⟨v, S'⟩, r1, r2, r3, r4, r5, r6⟩ := main
    dsimp only at r2 r3 r4 r5 r6
    subst r2
    refine ⟨S', ?_, r3, r4, r5, fun j hj => ?_⟩
    · unfold fX12_keep fX12_keep_b0
      rw [ha, if_pos (by decide)]
      exact r1
    · rw [if_pos rfl]
      exact r6 j hj
  · have hm : min a 39 = a := by omega
    rw [hm, show min (a + 1) 40 = a + 1 by omega]
    obtain ⟨S3, w1, w2, w3, w4⟩ := m_keep52 (N := N) (a := a) (S := S) ha (by omega) (by omega)
    refine ⟨S3, ?_, fun i j h1 h2 => w2 i j (by omega) h2, w3, w4, fun j hj => ?_⟩
    · unfold fX12_keep fX12_keep_b0
      rw [ha, if_neg (show ¬ nI a = 40 from fun q => h4 ((nI_eq (b := 40) (by omega) (by omega)).mp q))]
      exact w1
    · rw [if_neg h4]
      exact w2 36 j (by omega) (by omega)
theorem jSt.on6 {n0 n1 : Nat} {u v u' v' : Nat → Nat → Int32} (h : jSt n0 n1 u v) (h6 : n1 ≤ 6) (hu : ∀ c g, (c = 0 → g ≤ 1) → c ≤ 4 → g < 6 → u' c g = u c g) (hv : ∀ c g, (c = 0 → g ≤ 1) → c ≤ 4 → g < 6 → v' c g = v c g) : jSt n0 n1 u' v' := by
  obtain ⟨s1, s2, s3, s4, s5⟩ := h
  have u9 : ∀ c g, 1 ≤ c → c ≤ 4 → g < n1 → u' c g = u c g := fun c g h1 h2 h3 => hu c g (fun h => by omega) h2 (by omega)
  have v9 : ∀ c g, 1 ≤ c → c ≤ 4 → g < n1 → v' c g = v c g := fun c g h1 h2 h3 => hv c g (fun h => by omega) h2 (by omega)
  refine ⟨?_, ?_, fun g hg => ?_, fun g hg => ?_, fun g g' h1 h2 => ?_⟩
  · rw [hu 0 0 (fun _ => by omega) (by omega) (by omega), hv 0 0 (fun _ => by omega) (by omega) (by omega)]
    exact s1
  · rw [hu 0 1 (fun _ => by omega) (by omega) (by omega), hv 0 1 (fun _ => by omega) (by omega) (by omega)]
    exact s2
  · rw [u9 1 g (by omega) (by omega) hg, u9 2 g (by omega) (by omega) hg, u9 3 g (by omega) (by omega) hg, u9 4 g (by omega) (by omega) hg, v9 1 g (by omega) (by omega) hg, v9 2 g (by omega) (by omega) hg, v9 3 g (by omega) (by omega) hg, v9 4 g (by omega) (by omega) hg]
    exact s3 g hg
  · rw [v9 1 g (by omega) (by omega) hg, v9 2 g (by omega) (by omega) hg, v9 3 g (by omega) (by omega) hg, v9 4 g (by omega) (by omega) hg]
    exact s4 g hg
  · rw [v9 4 g (by omega) (by omega) h1, v9 4 g' (by omega) (by omega) h2]
    exact s5 g g' h1 h2
theorem JJ.keep {SX SM : gS} (hJ : JJ SX SM) : ∃ SX' SM', fX1_keepAct 5000 20 SX = some (0, SX') ∧ fX12_keep 5000 SM = some (0, SM') ∧ JJ SX' SM' ∧ (∀ i j, i ≠ 27 → ¬ (i = 26 ∧ j = 1) → SX' i j = SX i j) ∧ (∀ i j, i ≠ 36 → ¬ (i = 99 ∧ j = 39) → SM' i j = SM i j) := by
  obtain ⟨n0, n1, hT, hN, hI, hP, hM⟩ := id hJ
  obtain ⟨s, ⟨a, f1, f2, f3, f4⟩, q, t⟩ := hN
  obtain ⟨SX', x1, x2, x3, x4, x5⟩ := x_keep (N := 5000) (a := a) f2 f1 (by decide)
  obtain ⟨SM', m1, m2, m3, m4, m5⟩ := m_keep (N := 5000) (a := a) f3 f1 (by decide)
  refine ⟨SX', SM', x1, m1, ?_, x2, m2⟩
  refine hJ.act (fun i j hij => x2 i j (fun q => by rw [q] at hij; cases hij) (fun q => by rw [q.1] at hij; cases hij)) (fun i j hij => m2 i j (fun q => by rw [q] at hij; cases hij) (fun q => by rw [q.1, q.2] at hij; cases hij)) (fun n0 n1 hT hN hI => ?_)
  have h6 := hT.2.1.2.2
  obtain ⟨s, ⟨a', f1', f2', f3', f4'⟩, ⟨q, g1, g2, g3, g4⟩, t⟩ := hN
  have ea : a' = a := (nI_eq (by omega) (by omega)).mp (f2'.symm.trans f2)
  subst ea
  refine ⟨⟨s.on (fun c g _ hc => ?_) (fun c g h1 hc => ?_), ⟨min (a' + 1) 40, by omega, x3, m3, fun i hi => ?_⟩, ⟨q, g1, ?_, ?_, fun i hi => ?_⟩, fun i hi => ?_⟩, hI.on (x2 0 8 (by omega) (by omega)) (fun i j h1 h2 => x2 i j (by omega) (by omega)) (fun i j h1 h2 => m2 i j (by omega) (by omega)) (m2 99 57 (by omega) (by omega)) (m2 99 58 (by omega) (by omega)) (m2 99 59 (by omega) (by omega))⟩
  · show SX' (21 + c) g = SX (21 + c) g
    exact x2 _ _ (by omega) (by omega)
  · unfold mSt
    by_cases h0 : c = 0
    · rw [if_pos h0, if_pos h0, m2 _ _ (by omega) (by have := h1 h0; omega)]
    · rw [if_neg h0, if_neg h0, m2 _ _ (by omega) (by omega)]
  · by_cases hl : i < min a' 39
    · have key : ∀ j, j < 26 → SX' 27 (26 * i + j) = SX 27 (26 * (if a' = 40 then i + 1 else i) + j) ∧ SM' 36 (26 * i + j) = SM 36 (26 * (if a' = 40 then i + 1 else i) + j) := by
        intro j hj
        rw [x5 (26 * i + j) (by omega), m5 (26 * i + j) (by omega)]
        by_cases h4 : a' = 40
        · rw [if_pos h4, if_pos h4, show 26 + (26 * i + j) = 26 * (i + 1) + j by omega]
          exact ⟨rfl, rfl⟩
        · rw [if_neg h4, if_neg h4]
          exact ⟨rfl, rfl⟩
      refine (f4' (if a' = 40 then i + 1 else i) (by
        by_cases h4 : a' = 40
        · rw [if_pos h4]; omega
        · rw [if_neg h4]; omega)).on6 h6 (fun c g h1 hc hg => ?_) (fun c g h1 hc hg => ?_)
      · unfold xAc
        by_cases h0 : c = 0
        · rw [if_pos h0, if_pos h0]
          exact (key g (by have := h1 h0; omega)).1
        · rw [if_neg h0, if_neg h0]
          have := (key (2 + 4 * g + (c - 1)) (by omega)).1
          rw [show 26 * i + (2 + 4 * g + (c - 1)) = 26 * i + 2 + 4 * g + (c - 1) by omega] at this
          refine this.trans ?_
          congr 1
          omega
      · unfold mAc
        by_cases h0 : c = 0
        · rw [if_pos h0, if_pos h0]
          exact (key g (by have := h1 h0; omega)).2
        · rw [if_neg h0, if_neg h0]
          have := (key (2 + 6 * (c - 1) + g) (by omega)).2
          rw [show 26 * i + (2 + 6 * (c - 1) + g) = 26 * i + 2 + 6 * (c - 1) + g by omega] at this
          refine this.trans ?_
          congr 1
          omega
    · have ei : i = min a' 39 := by omega
      subst ei
      refine s.on6 h6 (fun c g h1 hc hg => ?_) (fun c g h1 hc hg => ?_)
      · unfold xAc xSt
        obtain ⟨p1, p2, p3⟩ := x4
        obtain ⟨q1, q2, q3, q4⟩ := p3 g hg
        rcases (show c = 0 ∨ c = 1 ∨ c = 2 ∨ c = 3 ∨ c = 4 by omega) with rfl | rfl | rfl | rfl | rfl
        · rcases (show g = 0 ∨ g = 1 by have := h1 rfl; omega) with rfl | rfl
          · exact p1
          · exact p2
        · exact q1
        · exact q2
        · exact q3
        · exact q4
      · unfold mAc mSt
        obtain ⟨p1, p2, p3⟩ := m4
        obtain ⟨q1, q2, q3, q4⟩ := p3 g hg
        rcases (show c = 0 ∨ c = 1 ∨ c = 2 ∨ c = 3 ∨ c = 4 by omega) with rfl | rfl | rfl | rfl | rfl
        · rcases (show g = 0 ∨ g = 1 by have := h1 rfl; omega) with rfl | rfl
          · exact p1
          · exact p2
        · exact q1
        · exact q2
        · exact q3
        · exact q4
  · rw [x2 (20 + 8) 3 (by omega) (by omega)]; exact g2
  · rw [m2 99 40 (by omega) (by omega)]; exact g3
  · rw [x2 (20 + 9) i (by omega) (by omega), x2 (20 + 10) i (by omega) (by omega), x2 (20 + 11) i (by omega) (by omega), m2 48 i (by omega) (by omega), m2 49 i (by omega) (by omega), m2 50 i (by omega) (by omega)]
    exact g4 i hi
  · rw [x2 (20 + 12) i (by omega) (by omega), m2 17 i (by omega) (by omega)]
    exact t i hi
/-! refused -/
theorem x_refuse {N k : Nat} {S : gS} (hk : k < 3) : fX1_refuse N 20 (nI k) S = some (-1, sU S 32 k (S 32 k + 1)) := by
  unfold fX1_refuse fX1_refuse_b0
  rw [if_neg (nI_pos (by omega))]
  unfold fX1_refuse_b4
  rw [if_neg (show ¬ (3 : Int32) ≤ nI k from nI_ge (b := 3) hk (by decide))]
  unfold fX1_refuse_b13
  rw [chk_t (inb_t hk (by decide)), chk_t (inb_t hk (by decide)), nI_clamp (by omega)]
  rfl
theorem m_refuse {N k : Nat} {S : gS} (hk : k < 3) : fX12_refuse N (nI k) S = some (-1, sU S 17 k (S 17 k + 1)) := by
  unfold fX12_refuse fX12_refuse_b0
  rw [chk_t (inb_t hk (by decide)), chk_t (inb_t hk (by decide)), nI_clamp (by omega)]
  rfl
theorem JJ.refuse {SX SM : gS} {k : Nat} (hJ : JJ SX SM) (hk : k < 3) : JJ (sU SX 32 k (SX 32 k + 1)) (sU SM 17 k (SM 17 k + 1)) := by
  have x2 : ∀ i j, i ≠ 32 → sU SX 32 k (SX 32 k + 1) i j = SX i j := fun i j h => sU_n (by omega)
  have m2 : ∀ i j, i ≠ 17 → sU SM 17 k (SM 17 k + 1) i j = SM i j := fun i j h => sU_n (by omega)
  refine hJ.act (fun i j hij => x2 i j (fun q => by rw [q] at hij; cases hij)) (fun i j hij => m2 i j (fun q => by rw [q] at hij; cases hij)) (fun n0 n1 hT hN hI => ⟨?_, hI.on (x2 0 8 (by omega)) (fun i j h1 h2 => x2 i j (by omega)) (fun i j h1 h2 => m2 i j (by omega)) (m2 99 57 (by omega)) (m2 99 58 (by omega)) (m2 99 59 (by omega))⟩)
  obtain ⟨s, ⟨a, f1, f2, f3, f4⟩, ⟨q, g1, g2, g3, g4⟩, t⟩ := hN
  refine ⟨s.on (fun c g _ hc => x2 _ _ (by omega)) (fun c g h1 hc => ?_), ⟨a, f1, ?_, ?_, fun i hi => ?_⟩, ⟨q, g1, ?_, ?_, fun i hi => ?_⟩, fun i hi => ?_⟩
  · unfold mSt
    by_cases h0 : c = 0
    · rw [if_pos h0, if_pos h0, m2 _ _ (by omega)]
    · rw [if_neg h0, if_neg h0, m2 _ _ (by omega)]
  · rw [x2 (20 + 6) 1 (by omega)]; exact f2
  · rw [m2 99 39 (by omega)]; exact f3
  · refine (f4 i hi).on (fun c g _ _ => ?_) (fun c g _ _ => ?_)
    · unfold xAc
      rw [show sU SX 32 k (SX 32 k + 1) (20 + 7) = SX (20 + 7) from funext fun j => x2 _ j (by omega)]
    · unfold mAc
      rw [show sU SM 17 k (SM 17 k + 1) 36 = SM 36 from funext fun j => m2 _ j (by omega)]
  · rw [x2 (20 + 8) 3 (by omega)]; exact g2
  · rw [m2 99 40 (by omega)]; exact g3
  · rw [x2 (20 + 9) i (by omega), x2 (20 + 10) i (by omega), x2 (20 + 11) i (by omega), m2 48 i (by omega), m2 49 i (by omega), m2 50 i (by omega)]
    exact g4 i hi
  · by_cases hh : i = k
    · subst hh
      rw [sU_s, sU_s]
      exact congrArg (· + 1) (t i hi)
    · rw [sU_n (by omega), sU_n (by omega)]
      exact t i hi
end

/-! part 55.aacts -/
section
/-! the ACTS -/
theorem cSit.kp {Z S S' : gS} {h : Nat} {d : Int32} {qs : Nat → qT} (C : cSit 21 Z S h d qs) (s : ∀ i j, i ≠ 27 → ¬ (i = 26 ∧ j = 1) → S' i j = S i j) : cSit 21 Z S' h d qs := by
  obtain ⟨c1, c2, c3, c4⟩ := C
  have hT : xtw S' = xtw S := by
    unfold xtw
    rw [s 0 7 (by omega) (by omega)]
  refine ⟨?_, by rw [s 21 0 (by omega) (by omega)]; exact c2, by rw [s 21 1 (by omega) (by omega)]; exact c3, fun g hg => ?_⟩
  · rw [hT]
    intro i j h1 h2
    have := xtw_cases (S := S)
    rw [s (xtw S + i) j (by omega) (by omega)]
    exact c1 i j h1 h2
  · rw [s (21 + 1) g (by omega) (by omega), s (21 + 2) g (by omega) (by omega), s (21 + 3) g (by omega) (by omega), s (21 + 4) g (by omega) (by omega)]
    exact c4 g hg
theorem mSit.kp {Z S S' : gS} {h : Nat} {d : Int32} {e : Nat → Int32} {qs : Nat → qT} (M : mSit Z S h d e qs) (s : ∀ i j, i ≠ 36 → ¬ (i = 99 ∧ j = 39) → S' i j = S i j) : mSit Z S' h d e qs := by
  obtain ⟨m1, m2, m3, m4, m5⟩ := M
  refine ⟨m1.on (fun i j h1 h2 => s i j (by omega) (by omega)), fun g hg => by rw [s 18 g (by omega) (by omega)]; exact m2 g hg, by rw [s 99 37 (by omega) (by omega)]; exact m3, by rw [s 99 38 (by omega) (by omega)]; exact m4, fun g hg => ?_⟩
  rw [s 32 g (by omega) (by omega), s 33 g (by omega) (by omega), s 34 g (by omega) (by omega), s 35 g (by omega) (by omega)]
  exact m5 g hg
theorem cSit.up {nd g h : Nat} {Z S S' : gS} {d : Int32} {qs : Nat → qT} {q : qT} (hnd : nd = 21 ∨ nd = 46) (C : cSit nd Z S h d qs) (s : ∀ i j, ¬ (nd + 1 ≤ i ∧ i ≤ nd + 4 ∧ j = g) → S' i j = S i j) (r1 : S' (nd + 1) g = q.1) (r2 : S' (nd + 2) g = q.2.1) (r3 : S' (nd + 3) g = q.2.2.1) (r4 : S' (nd + 4) g = q.2.2.2) : cSit nd Z S' h d (upq qs g q) := by
  obtain ⟨c1, c2, c3, c4⟩ := C
  have hT : xtw S' = xtw S := by
    unfold xtw
    rw [s 0 7 (by omega)]
  refine ⟨?_, by rw [s nd 0 (by omega)]; exact c2, by rw [s nd 1 (by omega)]; exact c3, fun g' hg => ?_⟩
  · rw [hT]
    intro i j h1 h2
    have := xtw_cases (S := S)
    rw [s (xtw S + i) j (by omega)]
    exact c1 i j h1 h2
  · by_cases hh : g' = g
    · subst hh
      rw [upq_s]
      exact ⟨r1, r2, r3, r4⟩
    · rw [upq_n hh, s (nd + 1) g' (by omega), s (nd + 2) g' (by omega), s (nd + 3) g' (by omega), s (nd + 4) g' (by omega)]
      exact c4 g' hg
theorem xNw_of {S S' : gS} (s : ∀ i j, ¬ (21 ≤ i ∧ i ≤ 25) → S' i j = S i j) : oSame xNw S S' := by
  intro i j h
  refine s i j (fun q => ?_)
  unfold xNw at h
  rw [Bool.or_eq_false_iff] at h
  have h2 := h.2
  simp only [Bool.and_eq_false_iff, decide_eq_false_iff_not] at h2
  omega
theorem mQ_of {S S' : gS} (s : ∀ i j, ¬ (32 ≤ i ∧ i ≤ 35 ∧ j < 6) → ¬ (i = 99 ∧ (j = 37 ∨ j = 38)) → S' i j = S i j) : oSame mQ S S' := by
  intro i j h
  unfold mQ at h
  rw [Bool.or_eq_false_iff] at h
  have h2 := mt mPk_t.mpr (Bool.not_eq_true _ |>.mpr h.2)
  exact s i j (fun q => h2 (Or.inl q)) (fun q => h2 (Or.inr q))
/-- the end of an ACT that puts one GUILD's row anew -/
theorem JJ.row {SX SM Z SX' SM' : gS} {h g : Nat} {d : Int32} {qs : Nat → qT} {q : qT} (hJ : JJ SX SM) (Zk : tOK Z) (h9 : h ≤ 999) (hg : g < tn1 Z) (C : cSit 21 Z SX h d qs) (M : mSit Z SM h d (Z 5) qs) (K : qsOK Z (Z 5) (upq qs g q)) (sx : ∀ i j, ¬ (22 ≤ i ∧ i ≤ 25 ∧ j = g) → SX' i j = SX i j) (sm : ∀ i j, ¬ (32 ≤ i ∧ i ≤ 35 ∧ j = g) → SM' i j = SM i j) (a1 : SX' 22 g = q.1) (a2 : SX' 23 g = q.2.1) (a3 : SX' 24 g = q.2.2.1) (a4 : SX' 25 g = q.2.2.2) (b1 : SM' 32 g = q.1) (b2 : SM' 33 g = q.2.1) (b3 : SM' 34 g = q.2.2.1) (b4 : SM' 35 g = q.2.2.2) : JJ SX' SM' := by
  have z6 := Zk.2.1.2
  exact hJ.now (xNw_of (fun i j hij => sx i j (by omega))) (mQ_of (fun i j h1 h2 => sm i j (by omega))) Zk (C.up (Or.inl rfl) sx a1 a2 a3 a4) (M.up sm b1 b2 b3 b4) K h9
theorem st_dismiss : Lw_dismiss JJ := by
  intro SX SM x1 hJ
  obtain ⟨S1, Z, h, qs, hS1, c0, hJ1, Zk, h9, C, M, K, w41, x0, x5⟩ := pre hJ
  have z6 := Zk.2.1.2
  have hF : fX12_dismiss 5000 x1 SM = if iv (inb x1 (tn1 Z)) = 0 then fX12_dismiss_b13 5000 S1 else fX12_dismiss_b19 5000 x1 S1 := by
    unfold fX12_dismiss fX12_dismiss_b0
    dsimp only [lt]
    rw [← hS1, bnd_t (m_isGuild M.1.2.1 (by omega))]
  cases h1 : inb x1 (tn1 Z) with
  | false =>
    refine stFl 5000 5000 1 hJ one_ne (Or.inr rfl) (ngF x5 (by omega) h1) ?_
    show fX12_dismiss 5000 x1 SM = _
    rw [hF, h1, ← hS1]
    rfl
  | true =>
  obtain ⟨g, hg, rfl⟩ := inb_of h1 (by omega)
  have hgc : (nI g).toNatClampNeg = g := nI_clamp (by omega)
  have hin : inb (nI g) 6 = true := inb_t (by omega) (by decide)
  have c4 : SX 25 g = (qs g).2.2.2 := (C.2.2.2 g hg).2.2.2
  have m4 : S1 35 g = (qs g).2.2.2 := (M.2.2.2.2 g hg).2.2.2
  have hX : fX11_dismiss 5000 (nI g) SX = if (qs g).2.2.2 = -1 then fX11_dismiss_b23 5000 SX else fX11_dismiss_b32 5000 (nI g) (qs g).2.2.2 SX := by
    refine (ngT x5 (by omega) h1).trans ?_
    dsimp only
    rw [chk_t hin, hgc]
    simp only [c4]
  have hM : fX12_dismiss 5000 (nI g) SM = if (qs g).2.2.2 = -1 then fX12_dismiss_b31 5000 S1 else fX12_dismiss_b37 5000 (nI g) (qs g).2.2.2 S1 := by
    rw [hF, h1]
    show fX12_dismiss_b19 5000 (nI g) S1 = _
    unfold fX12_dismiss_b19
    rw [chk_t hin, hgc, m4]
  by_cases hn : (qs g).2.2.2 = -1
  · refine stp_ok (SX := SX) (SM := SM) (v := -1) 5000 5000 (hJ1.refuse (k := 1) (by decide)) rfl (Or.inl rfl) ?_ ?_ ?_
    · show fX11_dismiss 5000 (nI g) SX = _
      rw [hX, if_pos hn]
      unfold fX11_dismiss_b23
      rw [bnd_t (show fX1_refuse 5000 20 1 SX = _ from x_refuse (k := 1) (by decide))]
    · show fX12_dismiss 5000 (nI g) SM = _
      rw [hM, if_pos hn]
      unfold fX12_dismiss_b31
      rw [bnd_t (show fX12_refuse 5000 1 S1 = _ from m_refuse (k := 1) (by decide))]
    · rw [sU_n (by omega)]; exact c0
  · obtain ⟨X2, M2, k1, k2, kJ, kx, km⟩ := hJ1.keep
    have C2 := C.kp kx
    have M3 := M.kp km
    obtain ⟨u1, u2, u3, u4⟩ := C2.2.2.2 g hg
    obtain ⟨v1, v2, v3, v4⟩ := M3.2.2.2.2 g hg
    have hq := K.1 g hg
    refine stp_ok (SX := SX) (SM := SM) (v := (qs g).2.2.2) 5000 5000 (kJ.row (q := ((qs g).1, (qs g).2.1, (qs g).2.2.1, -1)) Zk h9 hg C2 M3 (K.up ⟨hq.1, hq.2.1, hq.2.2.1, Or.inl rfl⟩ (Or.inl rfl)) (SX' := sU X2 25 g (-1)) (SM' := sU M2 35 g (-1)) (fun i j hij => sU_n (by omega)) (fun i j hij => sU_n (by omega)) ?_ ?_ ?_ sU_s ?_ ?_ ?_ sU_s) rfl (Or.inl rfl) ?_ ?_ ?_
    · rw [sU_n (by omega)]; exact u1
    · rw [sU_n (by omega)]; exact u2
    · rw [sU_n (by omega)]; exact u3
    · rw [sU_n (by omega)]; exact v1
    · rw [sU_n (by omega)]; exact v2
    · rw [sU_n (by omega)]; exact v3
    · show fX11_dismiss 5000 (nI g) SX = _
      rw [hX, if_neg hn]
      unfold fX11_dismiss_b32
      rw [bnd_t k1]
      dsimp only [lt]
      rw [chk_t hin, hgc]
    · show fX12_dismiss 5000 (nI g) SM = _
      rw [hM, if_neg hn]
      unfold fX12_dismiss_b37
      rw [bnd_t k2]
      dsimp only [lt]
      rw [chk_t hin, hgc]
    · rw [sU_n (by omega), km 99 4 (by omega) (by omega)]; exact c0
theorem st_confess : Lw_confess JJ := by
  intro SX SM x1 hJ
  obtain ⟨S1, Z, h, qs, hS1, c0, hJ1, Zk, h9, C, M, K, w41, x0, x5⟩ := pre hJ
  have z6 := Zk.2.1.2
  have hF : fX12_confess 5000 x1 SM = if iv (inb x1 (tn1 Z)) = 0 then fX12_confess_b13 5000 S1 else fX12_confess_b19 5000 x1 S1 := by
    unfold fX12_confess fX12_confess_b0
    dsimp only [lt]
    rw [← hS1, bnd_t (m_isGuild M.1.2.1 (by omega))]
  cases h1 : inb x1 (tn1 Z) with
  | false =>
    refine stFl 5000 5000 1 hJ one_ne (Or.inr rfl) (ngF x5 (by omega) h1) ?_
    show fX12_confess 5000 x1 SM = _
    rw [hF, h1, ← hS1]
    rfl
  | true =>
  obtain ⟨g, hg, rfl⟩ := inb_of h1 (by omega)
  have hgc : (nI g).toNatClampNeg = g := nI_clamp (by omega)
  have hin : inb (nI g) 6 = true := inb_t (by omega) (by decide)
  have c4 : SX 23 g = (qs g).2.1 := (C.2.2.2 g hg).2.1
  have hX : fX11_confess 5000 (nI g) SX = if 50 ≤ (qs g).2.1 then fX11_confess_b33 5000 (nI g) SX else fX11_confess_b24 5000 SX := by
    refine (ngT x5 (by omega) h1).trans ?_
    dsimp only
    rw [chk_t hin, hgc]
    simp only [c4]
  have hM : fX12_confess 5000 (nI g) SM = if iv (decide (¬ (qs g).2.1 < 50)) = 0 then fX12_confess_b27 5000 S1 else fX12_confess_b33 5000 (nI g) S1 := by
    rw [hF, h1]
    show fX12_confess_b19 5000 (nI g) S1 = _
    unfold fX12_confess_b19
    rw [bnd_t (m_canConfess Zk M hg)]
  by_cases hn : (qs g).2.1 < 50
  · refine stp_ok (SX := SX) (SM := SM) (v := -1) 5000 5000 (hJ1.refuse (k := 1) (by decide)) rfl (Or.inl rfl) ?_ ?_ ?_
    · show fX11_confess 5000 (nI g) SX = _
      rw [hX, if_neg (Int32.not_le.mpr hn)]
      unfold fX11_confess_b24
      rw [bnd_t (show fX1_refuse 5000 20 1 SX = _ from x_refuse (k := 1) (by decide))]
    · show fX12_confess 5000 (nI g) SM = _
      rw [hM, decide_eq_false (fun q => q hn)]
      show fX12_confess_b27 5000 S1 = _
      unfold fX12_confess_b27
      rw [bnd_t (show fX12_refuse 5000 1 S1 = _ from m_refuse (k := 1) (by decide))]
    · rw [sU_n (by omega)]; exact c0
  · obtain ⟨X2, M2, k1, k2, kJ, kx, km⟩ := hJ1.keep
    have C2 := C.kp kx
    have M3 := M.kp km
    obtain ⟨u1, u2, u3, u4⟩ := C2.2.2.2 g hg
    obtain ⟨v1, v2, v3, v4⟩ := M3.2.2.2.2 g hg
    obtain ⟨M4, d1, d2, d3⟩ := m_doConfess (N := 5000) Zk M3 hg
    obtain ⟨e1, e2, e3, e4⟩ := d2.2.2.2.2 g hg
    rw [upq_s] at e1 e2 e3 e4
    refine stp_ok (SX := SX) (SM := SM) (v := (qs g).1 / 2) 5000 5000 (kJ.row (q := cfq (qs g)) Zk h9 hg C2 M3 (cfq_up K hg hn) (SX' := sU (sU X2 23 g ((qs g).2.1 - 50)) 22 g ((qs g).1 / 2)) (SM' := M4) (fun i j hij => by rw [sU_n (by omega), sU_n (by omega)]) (fun i j hij => d3 i j (by omega)) ?_ ?_ ?_ ?_ e1 e2 e3 e4) rfl (Or.inl rfl) ?_ ?_ ?_
    · rw [sU_s]; rfl
    · rw [sU_n (by omega), sU_s]; rfl
    · rw [sU_n (by omega), sU_n (by omega)]; exact u3
    · rw [sU_n (by omega), sU_n (by omega)]; exact u4
    · show fX11_confess 5000 (nI g) SX = _
      rw [hX, if_pos (Int32.not_lt.mp hn)]
      unfold fX11_confess_b33
      rw [bnd_t k1]
      dsimp only [lt]
      rw [hgc, chk_t hin, chk_t hin, chk_t hin, chk_t hin, chk_t hin, show X2 23 g = (qs g).2.1 from u2, show sU X2 23 g ((qs g).2.1 - 50) 22 g = (qs g).1 by rw [sU_n (by omega)]; exact u1, sU_s]
    · show fX12_confess 5000 (nI g) SM = _
      rw [hM, decide_eq_true hn]
      show fX12_confess_b33 5000 (nI g) S1 = _
      unfold fX12_confess_b33
      rw [bnd_t k2]
      dsimp only
      rw [bnd_t d1]
      dsimp only
      rw [chk_t hin, hgc, e1]
      rfl
    · rw [d3 99 4 (by omega), km 99 4 (by omega) (by omega)]; exact c0
theorem st_give : Lw_give JJ := by
  intro SX SM x1 x2 hJ
  obtain ⟨S1, Z, h, qs, hS1, c0, hJ1, Zk, h9, C, M, K, w41, x0, x5⟩ := pre hJ
  have z6 := Zk.2.1.2
  have hF : fX12_give 5000 x1 x2 SM = if iv (inb x1 (tn1 Z)) = 0 then fX12_give_b13 5000 S1 else fX12_give_b19 5000 x1 x2 S1 := by
    unfold fX12_give fX12_give_b0
    dsimp only [lt]
    rw [← hS1, bnd_t (m_isGuild M.1.2.1 (by omega))]
  cases h1 : inb x1 (tn1 Z) with
  | false =>
    refine stFl 5000 5000 1 hJ one_ne (Or.inr rfl) (ngF x5 (by omega) h1) ?_
    show fX12_give 5000 x1 x2 SM = _
    rw [hF, h1, ← hS1]
    rfl
  | true =>
  obtain ⟨g, hg, rfl⟩ := inb_of h1 (by omega)
  have hgc : (nI g).toNatClampNeg = g := nI_clamp (by omega)
  have hin : inb (nI g) 6 = true := inb_t (by omega) (by decide)
  have hX : fX11_give 5000 (nI g) x2 SX = if iv (wth x2 1 100) = 0 then fX11_give_b15 5000 SX else fX11_give_b24 5000 (nI g) x2 SX := by
    refine (ngT x5 (by omega) h1).trans ?_
    dsimp only
    rw [bnd_t x_isWithin]
  have hM : fX12_give 5000 (nI g) x2 SM = if iv (wth x2 1 100) = 0 then fX12_give_b31 5000 S1 else fX12_give_b37 5000 (nI g) x2 S1 := by
    rw [hF, h1]
    show fX12_give_b19 5000 (nI g) x2 S1 = _
    unfold fX12_give_b19
    rw [bnd_t in_1_100]
  cases hn : wth x2 1 100 with
  | false =>
    refine stp_ok (SX := SX) (SM := SM) (v := -1) 5000 5000 (hJ1.refuse (k := 1) (by decide)) rfl (Or.inl rfl) ?_ ?_ ?_
    · show fX11_give 5000 (nI g) x2 SX = _
      rw [hX, hn]
      show fX11_give_b15 5000 SX = _
      unfold fX11_give_b15
      rw [bnd_t (show fX1_refuse 5000 20 1 SX = _ from x_refuse (k := 1) (by decide))]
    · show fX12_give 5000 (nI g) x2 SM = _
      rw [hM, hn]
      show fX12_give_b31 5000 S1 = _
      unfold fX12_give_b31
      rw [bnd_t (show fX12_refuse 5000 1 S1 = _ from m_refuse (k := 1) (by decide))]
    · rw [sU_n (by omega)]; exact c0
  | true =>
    obtain ⟨c, c1, c2, rfl⟩ := wth_of (a := 1) (b := 100) (by decide) (by decide) hn
    obtain ⟨X2, M2, k1, k2, kJ, kx, km⟩ := hJ1.keep
    have C2 := C.kp kx
    have M3 := M.kp km
    obtain ⟨u1, u2, u3, u4⟩ := C2.2.2.2 g hg
    obtain ⟨v1, v2, v3, v4⟩ := M3.2.2.2.2 g hg
    have hq := K.1 g hg
    obtain ⟨y, hy, ey⟩ := i32_999 hq.2.1
    obtain ⟨p, hp⟩ : ∃ z, z = (if (qs g).2.1 + nI c < 999 then (qs g).2.1 + nI c else 999) := ⟨_, rfl⟩
    have hp9 : 0 ≤ p ∧ p ≤ 999 := by
      rw [hp, ey, nI_add]
      by_cases hl : nI (y + c) < 999
      · rw [if_pos hl]
        exact ⟨nI_pos' (by omega), Int32.le_of_lt hl⟩
      · rw [if_neg hl]
        decide
    have hu : (qs g).2.2.2 = -1 ∨ ∀ g', g' < tn1 Z → g' ≠ g → (qs g').2.2.2 ≠ (qs g).2.2.2 := by
      by_cases hm : (qs g).2.2.2 = -1
      · exact Or.inl hm
      · exact Or.inr (fun g' hg' hne hh => hne (K.2.1 g' g hg' hg hh (fun q => hm (hh.symm.trans q))))
    refine stp_ok (SX := SX) (SM := SM) (v := p) 5000 5000 (kJ.row (q := ((qs g).1, p, (qs g).2.2)) Zk h9 hg C2 M3 (K.up ⟨hq.1, hp9, hq.2.2⟩ hu) (SX' := sU X2 23 g p) (SM' := sU M2 33 g p) (fun i j hij => sU_n (by omega)) (fun i j hij => sU_n (by omega)) ?_ sU_s ?_ ?_ ?_ sU_s ?_ ?_) rfl (Or.inl rfl) ?_ ?_ ?_
    · rw [sU_n (by omega)]; exact u1
    · rw [sU_n (by omega)]; exact u3
    · rw [sU_n (by omega)]; exact u4
    · rw [sU_n (by omega)]; exact v1
    · rw [sU_n (by omega)]; exact v3
    · rw [sU_n (by omega)]; exact v4
    · show fX11_give 5000 (nI g) (nI c) SX = _
      rw [hX, hn]
      show fX11_give_b24 5000 (nI g) (nI c) SX = _
      unfold fX11_give_b24
      rw [bnd_t k1]
      dsimp only
      have he : fX7_enrich 5000 21 (nI g) (nI c) X2 = some (0, sU X2 23 g p) := by
        unfold fX7_enrich fX7_enrich_b0
        rw [if_neg (nI_pos (by omega))]
        unfold fX7_enrich_b4
        rw [if_neg (show ¬ (6 : Int32) ≤ nI g from nI_ge (b := 6) (by omega) (by decide))]
        unfold fX7_enrich_b13
        rw [chk_t hin, chk_t hin, hgc, show X2 (21 + 2) g = (qs g).2.1 from u2, ← hp]
        rfl
      rw [bnd_t he]
      dsimp only
      rw [chk_t hin, hgc, sU_s]
    · show fX12_give 5000 (nI g) (nI c) SM = _
      rw [hM, hn]
      show fX12_give_b37 5000 (nI g) (nI c) S1 = _
      unfold fX12_give_b37
      rw [bnd_t k2]
      dsimp only [lt]
      rw [hgc, chk_t hin, chk_t hin, chk_t hin]
      simp only [v2]
      rw [← hp, sU_s]
    · rw [sU_n (by omega), km 99 4 (by omega) (by omega)]; exact c0
theorem st_hire : Lw_hire JJ := by
  intro SX SM x1 x2 hJ
  obtain ⟨S1, Z, h, qs, hS1, c0, hJ1, Zk, h9, C, M, K, w41, x0, x5⟩ := pre hJ
  have z6 := Zk.2.1.2
  have z8 := Zk.1.2
  have hF : fX12_hire 5000 x1 x2 SM = if iv (inb x1 (tn1 Z)) = 0 then fX12_hire_b21 5000 S1 else fX12_hire_b13 5000 x1 x2 S1 := by
    unfold fX12_hire fX12_hire_b0
    dsimp only [lt]
    rw [← hS1, bnd_t (m_isGuild M.1.2.1 (by omega))]
  have hG : fX12_hire_b13 5000 x1 x2 S1 = if iv (inb x2 (tn0 Z)) = 0 then fX12_hire_b21 5000 S1 else fX12_hire_b27 5000 x1 x2 S1 := by
    unfold fX12_hire_b13
    rw [bnd_t (m_isGrotto M.1.1 (by omega))]
  cases h1 : inb x1 (tn1 Z) with
  | false =>
    refine stFl 5000 5000 1 hJ one_ne (Or.inr rfl) (ngF x5 (by omega) h1) ?_
    show fX12_hire 5000 x1 x2 SM = _
    rw [hF, h1, ← hS1]
    rfl
  | true =>
  cases h2 : inb x2 (tn0 Z) with
  | false =>
    refine stFl 5000 5000 1 hJ one_ne (Or.inr rfl) ((ngT x5 (by omega) h1).trans (nkF x0 (by omega) h2)) ?_
    show fX12_hire 5000 x1 x2 SM = _
    rw [hF, h1, ← hS1]
    show fX12_hire_b13 5000 x1 x2 S1 = _
    rw [hG, h2]
    rfl
  | true =>
  obtain ⟨g, hg, rfl⟩ := inb_of h1 (by omega)
  obtain ⟨k, hk, rfl⟩ := inb_of h2 (by omega)
  have hgc : (nI g).toNatClampNeg = g := nI_clamp (by omega)
  have hin : inb (nI g) 6 = true := inb_t (by omega) (by decide)
  obtain ⟨o, ho⟩ : ∃ z, z = hoR (fun g => (qs g).2.2.2) (nI k) (tn1 Z) 0 := ⟨_, rfl⟩
  have hX : fX11_hire 5000 (nI g) (nI k) SX = if o = -1 then fX11_hire_b40 5000 (nI g) (nI k) SX else fX11_hire_b29 5000 SX := by
    refine (ngT x5 (by omega) h1).trans ((nkT x0 (by omega) h2).trans ?_)
    dsimp only [lt]
    rw [bnd_t (x_holderOf (N := 5000) (n := tn1 Z) x5 z6 (by decide)), hoR_eq (r := SX (21 + 4)) (r' := fun g => (qs g).2.2.2) (tn1 Z) 0 (fun i _ hi => (C.2.2.2 i (by omega)).2.2.2), ← ho]
  have hM : fX12_hire 5000 (nI g) (nI k) SM = if o = -1 then fX12_hire_b41 5000 (nI g) (nI k) S1 else fX12_hire_b36 5000 S1 := by
    rw [hF, h1]
    show fX12_hire_b13 5000 (nI g) (nI k) S1 = _
    rw [hG, h2]
    show fX12_hire_b27 5000 (nI g) (nI k) S1 = _
    unfold fX12_hire_b27
    rw [bnd_t (m_hirerOf (N := 5000) (n := tn1 Z) M.1.2.1 z6 (by decide)), hoR_eq (r := S1 35) (r' := fun g => (qs g).2.2.2) (tn1 Z) 0 (fun i _ hi => (M.2.2.2.2 i (by omega)).2.2.2), ← ho]
  by_cases hn : o = -1
  · obtain ⟨X2, M2, k1, k2, kJ, kx, km⟩ := hJ1.keep
    have C2 := C.kp kx
    have M3 := M.kp km
    obtain ⟨u1, u2, u3, u4⟩ := C2.2.2.2 g hg
    obtain ⟨v1, v2, v3, v4⟩ := M3.2.2.2.2 g hg
    obtain ⟨hq, hu⟩ := elH_q (k := k) Zk K hg hk (by unfold elH; rw [← ho]; exact decide_eq_true (Or.inl hn))
    refine stp_ok (SX := SX) (SM := SM) (v := 1) 5000 5000 (kJ.row (q := ((qs g).1, (qs g).2.1, (qs g).2.2.1, nI k)) Zk h9 hg C2 M3 (K.up hq (Or.inr hu)) (SX' := sU X2 25 g (nI k)) (SM' := sU M2 35 g (nI k)) (fun i j hij => sU_n (by omega)) (fun i j hij => sU_n (by omega)) ?_ ?_ ?_ sU_s ?_ ?_ ?_ sU_s) rfl (Or.inl rfl) ?_ ?_ ?_
    · rw [sU_n (by omega)]; exact u1
    · rw [sU_n (by omega)]; exact u2
    · rw [sU_n (by omega)]; exact u3
    · rw [sU_n (by omega)]; exact v1
    · rw [sU_n (by omega)]; exact v2
    · rw [sU_n (by omega)]; exact v3
    · show fX11_hire 5000 (nI g) (nI k) SX = _
      rw [hX, if_pos hn]
      unfold fX11_hire_b40
      rw [bnd_t k1]
      dsimp only [lt]
      rw [chk_t hin, hgc]
    · show fX12_hire 5000 (nI g) (nI k) SM = _
      rw [hM, if_pos hn]
      unfold fX12_hire_b41
      rw [bnd_t k2]
      dsimp only [lt]
      rw [chk_t hin, hgc]
    · rw [sU_n (by omega), km 99 4 (by omega) (by omega)]; exact c0
  · refine stp_ok (SX := SX) (SM := SM) (v := 0) 5000 5000 (hJ1.refuse (k := 1) (by decide)) rfl (Or.inl rfl) ?_ ?_ ?_
    · show fX11_hire 5000 (nI g) (nI k) SX = _
      rw [hX, if_neg hn]
      unfold fX11_hire_b29
      rw [bnd_t (show fX1_refuse 5000 20 1 SX = _ from x_refuse (k := 1) (by decide))]
    · show fX12_hire 5000 (nI g) (nI k) SM = _
      rw [hM, if_neg hn]
      rfl
    · rw [sU_n (by omega)]; exact c0
theorem st_drain : Lw_drain JJ := by
  intro SX SM x1 x2 hJ hx2
  obtain ⟨S1, Z, h, qs, hS1, c0, hJ1, Zk, h9, C, M, K, w41, x0, x5⟩ := pre hJ
  have z8 := Zk.1.2
  have hF : fX12_drain 5000 x1 x2 SM = if iv (inb x1 (tn0 Z)) = 0 then fX12_drain_b13 5000 S1 else fX12_drain_b19 5000 x1 x2 S1 := by
    unfold fX12_drain fX12_drain_b0
    dsimp only [lt]
    rw [← hS1, bnd_t (m_isGrotto M.1.1 (by omega))]
  cases h1 : inb x1 (tn0 Z) with
  | false =>
    refine stFl 5000 5000 1 hJ one_ne (Or.inr rfl) (nkF x0 (by omega) h1) ?_
    show fX12_drain 5000 x1 x2 SM = _
    rw [hF, h1, ← hS1]
    rfl
  | true =>
  obtain ⟨d, hd⟩ : ∃ z, z = SX 21 1 := ⟨_, rfl⟩
  rw [← hd] at C M
  have hX : fX11_drain 5000 x1 x2 SX = if iv (bt d x1) = x2 then fX11_drain_b20 5000 SX else fX11_drain_b31 5000 x1 SX := by
    refine (nkT x0 (by omega) h1).trans ?_
    dsimp only
    have e : fX7_isDrained 5000 21 x1 SX = some (iv (bt d x1), SX) := by
      unfold fX7_isDrained fX7_isDrained_b0
      rw [← hd, bnd_t x_isOneOf]
      exact chk_t zb_iv
    rw [bnd_t e]
  have hM : fX12_drain 5000 x1 x2 SM = if iv (bt d x1) = x2 then fX12_drain_b31 5000 S1 else fX12_drain_b36 5000 x1 S1 := by
    rw [hF, h1]
    show fX12_drain_b19 5000 x1 x2 S1 = _
    unfold fX12_drain_b19
    rw [M.2.2.2.1, bnd_t m_isOf]
  by_cases hn : iv (bt d x1) = x2
  · refine stp_ok (SX := SX) (SM := SM) (v := 0) 5000 5000 (hJ1.refuse (k := 1) (by decide)) rfl (Or.inl rfl) ?_ ?_ ?_
    · show fX11_drain 5000 x1 x2 SX = _
      rw [hX, if_pos hn]
      unfold fX11_drain_b20
      rw [bnd_t (show fX1_refuse 5000 20 1 SX = _ from x_refuse (k := 1) (by decide))]
    · show fX12_drain 5000 x1 x2 SM = _
      rw [hM, if_pos hn]
      rfl
    · rw [sU_n (by omega)]; exact c0
  · obtain ⟨X2, M2, k1, k2, kJ, kx, km⟩ := hJ1.keep
    obtain ⟨c1, c2, c3, c4⟩ := C.kp kx
    obtain ⟨m1, m2, m3, m4, m5⟩ := M.kp km
    obtain ⟨d', hd'⟩ : ∃ z, z = d ^^^ ((1 : Int32) <<< (x1 &&& 31)) := ⟨_, rfl⟩
    have sx : ∀ i j, ¬ (i = 21 ∧ j = 1) → sU X2 21 1 d' i j = X2 i j := fun i j hij => sU_n hij
    have sm : ∀ i j, ¬ (i = 99 ∧ j = 38) → sU M2 99 38 d' i j = M2 i j := fun i j hij => sU_n hij
    have hT : xtw (sU X2 21 1 d') = xtw X2 := by
      unfold xtw
      rw [sx 0 7 (by omega)]
    have C3 : cSit 21 Z (sU X2 21 1 d') h d' qs := by
      refine ⟨?_, by rw [sx 21 0 (by omega)]; exact c2, sU_s, fun g hg => ?_⟩
      · rw [hT]
        intro i j h1 h2
        have := xtw_cases (S := X2)
        rw [sx _ _ (by omega)]
        exact c1 i j h1 h2
      · rw [sx _ _ (by omega), sx _ _ (by omega), sx _ _ (by omega), sx _ _ (by omega)]
        exact c4 g hg
    have M4 : mSit Z (sU M2 99 38 d') h d' (Z 5) qs := ⟨m1.on (fun i j h1 h2 => sm i j (by omega)), fun g hg => by rw [sm 18 g (by omega)]; exact m2 g hg, by rw [sm 99 37 (by omega)]; exact m3, sU_s, fun g hg => by rw [sm 32 g (by omega), sm 33 g (by omega), sm 34 g (by omega), sm 35 g (by omega)]; exact m5 g hg⟩
    refine stp_ok (SX := SX) (SM := SM) (v := 1) 5000 5000 (kJ.now (SX' := sU X2 21 1 d') (SM' := sU M2 99 38 d') (xNw_of (fun i j hij => sx i j (by omega))) (mQ_of (fun i j h1 h2 => sm i j (by omega))) Zk C3 M4 K h9) rfl (Or.inl rfl) ?_ ?_ ?_
    · show fX11_drain 5000 x1 x2 SX = _
      rw [hX, if_neg hn]
      unfold fX11_drain_b31
      rw [bnd_t k1]
      show bnd (fX7_turn 5000 21 x1 X2) _ = _
      unfold fX7_turn fX7_turn_b0
      rw [c3, ← hd']
      rfl
    · show fX12_drain 5000 x1 x2 SM = _
      rw [hM, if_neg hn]
      unfold fX12_drain_b36
      rw [bnd_t k2]
      dsimp only [lt]
      rw [m4, ← hd']
    · rw [sm 99 4 (by omega), km 99 4 (by omega) (by omega)]; exact c0
end
