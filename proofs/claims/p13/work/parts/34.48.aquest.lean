/-! questions: their frame on both sides -/
theorem JJ.sit {SX SM : gS} (hJ : JJ SX SM) : ∃ (Z : gS) (h : Nat) (qs : Nat → qT), tOK Z ∧ h ≤ 999 ∧ cSit 21 Z SX h (SX 21 1) qs ∧ mSit Z SM h (SX 21 1) (Z 5) qs ∧ qsOK Z (Z 5) qs ∧ SM 99 41 = -1 ∧ ∀ n0 n1, jTown n0 n1 (xtw SX) SX SM → n0 = tn0 Z ∧ n1 = tn1 Z := by
  obtain ⟨n0, n1, hT, hN, hI, hP, hM⟩ := hJ
  obtain ⟨⟨a1, a2, a3⟩, ⟨b1, b2, b3⟩, ⟨w, w1, w2, w3, w4⟩, ⟨b, d1, d2, d3⟩, hg, hgr, ⟨np, p1, p2, p3, p4, p5⟩, ⟨nc, c1, c2, c3, c4, c5⟩⟩ := hT
  obtain ⟨⟨⟨h, e1, e2, e3⟩, e4, e5, e6, e7⟩, -⟩ := hN
  obtain ⟨Z, hZ⟩ : ∃ z : gS, z = fun i j => SX (xtw SX + i) j := ⟨_, rfl⟩
  have z : ∀ i j, Z i j = SX (xtw SX + i) j := fun i j => by rw [hZ]
  have t0 : tn0 Z = n0 := by unfold tn0; rw [z 0 0, show SX (xtw SX + 0) 0 = nI n0 from a1, nI_clamp (by omega)]
  have t1 : tn1 Z = n1 := by unfold tn1; rw [z 0 5, show SX (xtw SX + 0) 5 = nI n1 from b1, nI_clamp (by omega)]
  have tw : tnw Z = w := by unfold tnw; rw [z 0 10, show SX (xtw SX + 0) 10 = nI w from w2, nI_clamp (by omega)]
  have tb : tnb Z = b := by unfold tnb; rw [z 0 12, show SX (xtw SX + 0) 12 = nI b from d2, nI_clamp (by omega)]
  have tp : tnp Z = np := by unfold tnp; rw [z 10 3, p2, nI_clamp (by omega)]
  have tc : tnc Z = nc := by unfold tnc; rw [z 13 3, c2, nI_clamp (by omega)]
  have z11 : Z 11 = SX (xtw SX + 10 + 1) := funext fun j => z 11 j
  have z14 : Z 14 = SX (xtw SX + 13 + 1) := funext fun j => z 14 j
  refine ⟨Z, h, fun g => (SM 32 g, SM 33 g, SM 34 g, SM 35 g), ?_, e1, ?_, ?_, ?_, hM.2.1, fun m0 m1 hT' => ?_⟩
  · refine ⟨⟨?_, ?_⟩, ⟨?_, ?_⟩, ⟨?_, ?_, ?_⟩, ⟨?_, ?_⟩, ?_, ?_, ⟨?_, ?_, ?_⟩, ?_, ?_, ?_⟩
    · rw [t0, z 0 0]; exact a1
    · rw [t0]; exact a3
    · rw [t1, z 0 5]; exact b1
    · rw [t1]; exact b3
    · rw [tw, z 0 10]; exact w2
    · rw [tw]; exact w1
    · intro i hi
      rw [tw] at hi
      obtain ⟨x, x1, x2, -⟩ := w4 i hi
      exact ⟨x, x1, by rw [z 9 i]; exact x2⟩
    · rw [tb, z 0 12]; exact d2
    · rw [tb]; exact d1
    · intro k hk
      rw [t0] at hk
      obtain ⟨⟨x, x1, x2, x3, -⟩, ⟨y, y1, y2, -⟩, ⟨u, u1, u2, -⟩, ⟨v, v1, v2, -⟩⟩ := hg k hk
      refine ⟨⟨x, x1, x2, by rw [z 1 k]; exact x3⟩, ⟨y, y1, by rw [z 2 k]; exact y2⟩, ⟨u, u1, by rw [z 3 k]; exact u2⟩, ?_⟩
      rw [z 4 k, v2]
      rcases (show v = 0 ∨ v = 1 by omega) with rfl | rfl
      · exact Or.inl rfl
      · exact Or.inr rfl
    · intro g hg
      rw [t1] at hg
      obtain ⟨x, x1, x2, -⟩ := hgr g hg
      exact ⟨x, x1, by rw [z 5 g]; exact x2⟩
    · rw [tp, z 10 3]; exact p2
    · rw [tp]; exact p1
    · rw [tp, z11]; exact p5
    · rw [tc, z 13 3]; exact c2
    · rw [tc]; exact c1
    · rw [tc, z14]; exact c5
  · refine ⟨fun i j _ _ => (z i j).symm, e2, rfl, fun g hg => ?_⟩
    rw [t1] at hg
    exact e5 g hg
  · refine ⟨⟨?_, ?_, ?_, ?_, ?_, ?_, fun i hi => ?_, fun k hk => ?_, fun i hi => ?_, fun i hi => ?_⟩, fun g hg => ?_, e3, e4.symm, fun g hg => ⟨rfl, rfl, rfl, rfl⟩⟩
    · rw [t0]; exact a2
    · rw [t1]; exact b2
    · rw [tb]; exact d3
    · rw [tw]; exact w3
    · rw [tp]; exact p3
    · rw [tc]; exact c3
    · rw [tw] at hi
      obtain ⟨x, x1, x2, x3⟩ := w4 i hi
      rw [z 9 i, x2, x3]
    · rw [t0] at hk
      obtain ⟨⟨x, x1, x2, x3, x4⟩, ⟨y, y1, y2, y3⟩, ⟨u, u1, u2, u3⟩, ⟨v, v1, v2, v3⟩⟩ := hg k hk
      rw [z 1 k, z 2 k, z 3 k, z 4 k, x3, x4, y2, y3, u2, u3, v2, v3]
      exact ⟨rfl, rfl, rfl, rfl⟩
    · rw [tp] at hi
      rw [z11]
      exact p4 i hi
    · rw [tc] at hi
      rw [z14]
      exact c4 i hi
    · rw [t1] at hg
      obtain ⟨x, x1, x2, x3⟩ := hgr g hg
      rw [z 5 g, x2, x3]
  · refine ⟨fun g hg => ?_, fun g g' hg hg' => ?_, fun g hg => ?_⟩
    · rw [t1] at hg
      rw [t0]
      exact e6 g hg
    · rw [t1] at hg hg'
      exact e7 g g' hg hg'
    · rw [t1] at hg
      obtain ⟨x, x1, x2, x3⟩ := hgr g hg
      exact ⟨x, x1, by rw [z 5 g]; exact x2⟩
  · obtain ⟨⟨a1', -, a3'⟩, ⟨b1', -, b3'⟩, -⟩ := hT'
    rw [t0, t1]
    exact ⟨(nI_eq (by omega) (by omega)).mp (a1'.symm.trans a1), (nI_eq (by omega) (by omega)).mp (b1'.symm.trans b1)⟩
/-! the reference's row of what is so: packed and unpacked -/
noncomputable def mPk (i j : Nat) : Bool := (32 ≤ i && i ≤ 35 && j < 6) || (i == 99 && (j == 37 || j == 38))
theorem mPk_t {i j : Nat} : mPk i j = true ↔ (32 ≤ i ∧ i ≤ 35 ∧ j < 6) ∨ (i = 99 ∧ (j = 37 ∨ j = 38)) := by
  unfold mPk
  simp only [Bool.or_eq_true, Bool.and_eq_true, beq_iff_eq, decide_eq_true_iff, and_assoc]
theorem q_pk {N nd : Nat} {S1 : gS} (hnd : nd = 46 ∨ nd = 51) (hN : 700 < N) : ∃ S2, fX12_pack N nd 0 S1 = some (0, S2) ∧ (∀ i j, i ≠ nd → S2 i j = S1 i j) ∧ ∀ S, (∀ j, S nd j = S2 nd j) → ∃ S4, fX12_unpack N nd 0 S = some (0, S4) ∧ ∀ i j, S4 i j = if mPk i j = true then S1 i j else S i j := by
  have hm : mN nd = 26 := by rcases hnd with rfl | rfl <;> rfl
  obtain ⟨S2, p1, p2, p3⟩ := m_pack (N := N) (nd := nd) (a := 0) (S := S1) (by omega) (by omega) (by omega) (by omega)
  refine ⟨S2, p1, fun i j h => p2 i j (by omega), fun S hS => ?_⟩
  obtain ⟨S4, u1, u2, u3⟩ := m_unpack (N := N) (nd := nd) (a := 0) (S := S) (by omega) (by omega) (by omega) (by omega)
  refine ⟨S4, u1, fun i j => ?_⟩
  by_cases h : mPk i j = true
  · rw [if_pos h]
    rcases mPk_t.mp h with ⟨h1, h2, h3⟩ | ⟨rfl, rfl | rfl⟩
    · obtain ⟨q1, q2, q3, q4⟩ := p3.2.2 j h3
      obtain ⟨r1, r2, r3, r4⟩ := u3.2.2 j h3
      rcases (show i = 32 ∨ i = 33 ∨ i = 34 ∨ i = 35 by omega) with rfl | rfl | rfl | rfl
      · rw [← r1, hS, q1]
      · rw [← r2, hS, q2]
      · rw [← r3, hS, q3]
      · rw [← r4, hS, q4]
    · rw [← u3.1, hS, p3.1]
    · rw [← u3.2.1, hS, p3.2.1]
  · rw [if_neg h]
    have h' := mt mPk_t.mpr h
    exact u2 i j (fun q => h' (Or.inl q)) (fun q => h' (Or.inr q))
noncomputable def mQ (i j : Nat) : Bool := mScr i j || mPk i j
theorem mQ_back {S1 S S4 : gS} (s : oSame mQ S1 S) (u : ∀ i j, S4 i j = if mPk i j = true then S1 i j else S i j) : mSame S1 S4 := by
  intro i j h
  rw [u i j]
  by_cases h1 : mPk i j = true
  · rw [if_pos h1]
  · rw [if_neg h1]
    refine s i j ?_
    unfold mQ
    rw [h, Bool.not_eq_true _ |>.mp h1]
    rfl
theorem oSame.q {S S' : gS} (s : oSame mHo S S') : oSame mQ S S' := by
  intro i j h
  refine s i j ?_
  cases hh : mHo i j with
  | false => rfl
  | true =>
    exfalso
    unfold mQ at h
    rw [Bool.or_eq_false_iff] at h
    have h2 := fun q => (Bool.not_eq_true _ |>.mpr h.2) (mPk_t.mpr q)
    have h1 := h.1
    unfold mHo at hh
    simp only [Bool.or_eq_true, Bool.and_eq_true, beq_iff_eq, decide_eq_true_iff] at hh
    rcases hh with ((rfl | rfl) | h3) | ⟨rfl, (rfl | rfl) | rfl⟩
    · cases h1
    · cases h1
    · exact h2 (Or.inl ⟨h3.1.1, h3.1.2, h3.2⟩)
    · exact h2 (Or.inr ⟨rfl, Or.inl rfl⟩)
    · cases h1
    · cases h1
theorem mSame.q {S S' : gS} (s : mSame S S') : oSame mQ S S' := fun i j h => s i j (by
  unfold mQ at h
  rw [Bool.or_eq_false_iff] at h
  exact h.1)
theorem mSit.on {Z S S' : gS} {h : Nat} {d : Int32} {e : Nat → Int32} {qs : Nat → qT} (M : mSit Z S h d e qs) (s : mSame S S') : mSit Z S' h d e qs := by
  obtain ⟨m1, m2, m3, m4, m5⟩ := M
  refine ⟨m1.on (fun i j h1 h2 => s i j ?_), fun g hg => by rw [s 18 g rfl]; exact m2 g hg, by rw [s 99 37 rfl]; exact m3, by rw [s 99 38 rfl]; exact m4, fun g hg => ?_⟩
  · rcases (show i = 5 ∨ i = 6 ∨ i = 7 ∨ i = 8 ∨ i = 9 ∨ i = 10 ∨ i = 11 ∨ i = 12 ∨ i = 13 ∨ i = 14 ∨ i = 15 ∨ i = 16 by omega) with rfl | rfl | rfl | rfl | rfl | rfl | rfl | rfl | rfl | rfl | rfl | rfl <;> rfl
  · rw [s 32 g rfl, s 33 g rfl, s 34 g rfl, s 35 g rfl]
    exact m5 g hg
theorem cSit.sm {Z S S' : gS} {h : Nat} {d : Int32} {qs : Nat → qT} (C : cSit 21 Z S h d qs) (s : xSame S S') : cSit 21 Z S' h d qs := by
  obtain ⟨c1, c2, c3, c4⟩ := C
  have hT : xtw S' = xtw S := by
    unfold xtw
    rw [s 0 7 rfl]
  refine ⟨?_, by rw [s 21 0 rfl]; exact c2, by rw [s 21 1 rfl]; exact c3, fun g hg => ?_⟩
  · rw [hT]
    intro i j h1 h2
    rw [s (xtw S + i) j ?_]
    · exact c1 i j h1 h2
    · rcases xtw_cases (S := S) with hT | hT
      · rw [hT]
        rcases (show i = 0 ∨ i = 1 ∨ i = 2 ∨ i = 3 ∨ i = 4 ∨ i = 5 ∨ i = 6 ∨ i = 7 ∨ i = 8 ∨ i = 9 ∨ i = 10 ∨ i = 11 ∨ i = 13 ∨ i = 14 by omega) with rfl | rfl | rfl | rfl | rfl | rfl | rfl | rfl | rfl | rfl | rfl | rfl | rfl | rfl <;> rfl
      · rw [hT]
        rcases (show i = 0 ∨ i = 1 ∨ i = 2 ∨ i = 3 ∨ i = 4 ∨ i = 5 ∨ i = 6 ∨ i = 7 ∨ i = 8 ∨ i = 9 ∨ i = 10 ∨ i = 11 ∨ i = 13 ∨ i = 14 by omega) with rfl | rfl | rfl | rfl | rfl | rfl | rfl | rfl | rfl | rfl | rfl | rfl | rfl | rfl <;> rfl
  · show S' 22 g = _ ∧ S' 23 g = _ ∧ S' 24 g = _ ∧ S' 25 g = _
    rw [s 22 g rfl, s 23 g rfl, s 24 g rfl, s 25 g rfl]
    exact c4 g hg
/-! answers -/
theorem stFl {co : Nat → Int32} {ok : Nat → Prop} {SX SM : gS} {FX : Nat → Option tR} {FM : Nat → Option (Int32 × gS)} (N M t : Nat) (hJ : JJ SX SM) (ht : t ≠ 0) (hok : ok t) (h1 : FX N = some (t, 0, SX)) (h2 : FM M = some (0, sU (sU SM 99 4 0) 99 4 (co t))) : StpT JJ co ok FX FM :=
  stp_no (v := 0) (w := 0) N M t (hJ.same xSame.rf ((code_same SM 0).tr (code_same _ (co t)))) ht hok h1 h2 (code_at _ _)
theorem stSu {co : Nat → Int32} {ok : Nat → Prop} {SX SM : gS} {FX : Nat → Option tR} {FM : Nat → Option (Int32 × gS)} (N M : Nat) (v : Int32) (hJ : JJ SX SM) (hco : co 0 = 0) (hok : ok 0) (h1 : Gv (FX N) (fun r => r.1 = 0 ∧ r.2.1 = v ∧ xSame SX r.2.2)) (h2 : Gv (FM M) (fun r => r.1 = v ∧ mSame (sU SM 99 4 0) r.2 ∧ r.2 99 4 = 0)) : StpT JJ co ok FX FM := by
  obtain ⟨⟨t, w, SX'⟩, a1, a2, a3, a4⟩ := h1
  obtain ⟨⟨u, SM'⟩, b1, b2, b3, b4⟩ := h2
  dsimp only at a2 a3 a4 b2 b3 b4
  subst a2 a3 b2
  exact stp_ok (SX := SX) (SM := SM) N M (hJ.same a4 ((code_same SM 0).tr b3)) hco hok a1 b1 b4
section
variable {N n : Nat} {S : gS} {x a b : Int32} {f : Nat × Int32 × gS → Option tR}
theorem ngT (h : S (xtw S) 5 = nI n) (hn : n < 2 ^ 31) (hi : inb x n = true) : bnx (fX11_needGuild N x S) f = f (0, 0, S) := by
  rw [bnx_t (x_needGuild h hn) (by rw [hi]; rfl), hi]
  rfl
theorem ngF (h : S (xtw S) 5 = nI n) (hn : n < 2 ^ 31) (hi : inb x n = false) : bnx (fX11_needGuild N x S) f = some (1, 0, S) := by
  rw [bnx_x (x_needGuild h hn) (by rw [hi]; exact one_ne), hi]
  rfl
theorem nkT (h : S (xtw S) 0 = nI n) (hn : n < 2 ^ 31) (hi : inb x n = true) : bnx (fX11_needGrotto N x S) f = f (0, 0, S) := by
  rw [bnx_t (x_needGrotto h hn) (by rw [hi]; rfl), hi]
  rfl
theorem nkF (h : S (xtw S) 0 = nI n) (hn : n < 2 ^ 31) (hi : inb x n = false) : bnx (fX11_needGrotto N x S) f = some (1, 0, S) := by
  rw [bnx_x (x_needGrotto h hn) (by rw [hi]; exact one_ne), hi]
  rfl
theorem nwT (hi : wth x 0 a = true) : bnx (fX11_needWhat N x a S) f = f (0, 0, S) := by
  rw [bnx_t x_needWhat (by rw [hi]; rfl), hi]
  rfl
theorem nwF (hi : wth x 0 a = false) : bnx (fX11_needWhat N x a S) f = some (1, 0, S) := by
  rw [bnx_x x_needWhat (by rw [hi]; exact one_ne), hi]
  rfl
theorem niT (hi : wth x a b = true) : bnx (fX11_needWithin N x a b S) f = f (0, 0, S) := by
  rw [bnx_t x_needWithin (by rw [hi]; rfl), hi]
  rfl
theorem niF (hi : wth x a b = false) : bnx (fX11_needWithin N x a b S) f = some (2, 0, S) := by
  rw [bnx_x x_needWithin (by rw [hi]; exact two_ne), hi]
  rfl
end
/-- the reference's test of a choice of two -/
theorem w01F {x : Int32} (h : wth x 0 1 = false) : x < 0 ∨ (¬ x < 0 ∧ ¬ x ≤ 1) := by
  unfold wth at h
  rw [Bool.and_eq_false_iff, decide_eq_false_iff_not, decide_eq_false_iff_not] at h
  by_cases h0 : x < 0
  · exact Or.inl h0
  · rcases h with h | h
    · exact absurd (Int32.not_lt.mp h0) h
    · exact Or.inr ⟨h0, h⟩
theorem w01T {x : Int32} (h : wth x 0 1 = true) : ¬ x < 0 ∧ x ≤ 1 ∧ (x = 0 ∨ x = 1) := by
  obtain ⟨c, c1, c2, rfl⟩ := wth_of (a := 0) (b := 1) (by decide) (by decide) h
  rcases (show c = 0 ∨ c = 1 by omega) with rfl | rfl
  · exact ⟨by decide, by decide, Or.inl rfl⟩
  · exact ⟨by decide, by decide, Or.inr rfl⟩
