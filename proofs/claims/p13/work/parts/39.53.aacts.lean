/-! ACTS: what both sides keep -/
noncomputable def xNw (i j : Nat) : Bool := xScr i j || (21 ≤ i && i ≤ 25)
theorem jSt_of {Z SX SM : gS} {h : Nat} {d : Int32} {e : Nat → Int32} {qs : Nat → qT} (C : cSit 21 Z SX h d qs) (M : mSit Z SM h d e qs) (K : qsOK Z e qs) (h9 : h ≤ 999) : jSt (tn0 Z) (tn1 Z) (xSt 21 SX) (mSt SM) := by
  obtain ⟨c1, c2, c3, c4⟩ := C
  obtain ⟨m1, m2, m3, m4, m5⟩ := M
  refine ⟨⟨h, h9, c2, m3⟩, c3.trans m4.symm, fun g hg => ?_, fun g hg => ?_, fun g g' hg hg' => ?_⟩
  · obtain ⟨a1, a2, a3, a4⟩ := c4 g hg
    obtain ⟨b1, b2, b3, b4⟩ := m5 g hg
    exact ⟨a1.trans b1.symm, a2.trans b2.symm, a3.trans b3.symm, a4.trans b4.symm⟩
  · obtain ⟨b1, b2, b3, b4⟩ := m5 g hg
    show (0 ≤ SM 32 g ∧ SM 32 g ≤ 99) ∧ (0 ≤ SM 33 g ∧ SM 33 g ≤ 999) ∧ (0 ≤ SM 34 g ∧ SM 34 g ≤ 999) ∧ (SM 35 g = -1 ∨ ∃ k : Nat, k < tn0 Z ∧ SM 35 g = nI k)
    rw [b1, b2, b3, b4]
    exact K.1 g hg
  · show SM 35 g = SM 35 g' → SM 35 g ≠ -1 → g = g'
    rw [(m5 g hg).2.2.2, (m5 g' hg').2.2.2]
    exact K.2.1 g g' hg hg'
theorem xNw.act {S S' : gS} (s : oSame xNw S S') : oSame xAct S S' := fun i j h => s i j (by
  unfold xAct at h
  rw [Bool.or_eq_false_iff, Bool.or_eq_false_iff] at h
  unfold xNw
  rw [h.1.1, Bool.false_or]
  have h2 := h.1.2
  simp only [Bool.and_eq_false_iff, decide_eq_false_iff_not] at h2 ⊢
  omega)
theorem mQ.act {S S' : gS} (s : oSame mQ S S') : oSame mAct S S' := fun i j h => s i j (by
  unfold mAct at h
  simp only [Bool.or_eq_false_iff] at h
  obtain ⟨⟨⟨⟨⟨h1, h2⟩, h3⟩, h4⟩, h5⟩, h6⟩ := h
  unfold mQ
  rw [h1, Bool.false_or]
  cases hp : mPk i j with
  | false => rfl
  | true =>
    exfalso
    rcases mPk_t.mp hp with ⟨q1, q2, q3⟩ | ⟨rfl, rfl | rfl⟩
    · simp only [Bool.and_eq_false_iff, decide_eq_false_iff_not] at h3
      omega
    · cases h6
    · cases h6)
/-- what is so now is put anew on both sides -/
theorem JJ.now {SX SM SX' SM' Z : gS} {h : Nat} {d : Int32} {qs : Nat → qT} (hJ : JJ SX SM) (x : oSame xNw SX SX') (m : oSame mQ SM SM') (Zk : tOK Z) (C : cSit 21 Z SX' h d qs) (M : mSit Z SM' h d (Z 5) qs) (K : qsOK Z (Z 5) qs) (h9 : h ≤ 999) : JJ SX' SM' := by
  refine hJ.act (xNw.act x) (mQ.act m) (fun n0 n1 hT hN hI => ?_)
  have tw : xtw SX' = xtw SX := by
    unfold xtw
    rw [x 0 7 rfl]
  have e0 : SX (xtw SX) 0 = nI (tn0 Z) := by
    have := (C.1 0 0 (by omega) (by omega)).trans Zk.1.1
    rw [tw] at this
    rw [← this]
    rcases xtw_cases (S := SX) with q | q <;> rw [q] <;> exact (x _ 0 rfl).symm
  have e5 : SX (xtw SX) 5 = nI (tn1 Z) := by
    have := (C.1 0 5 (by omega) (by omega)).trans Zk.2.1.1
    rw [tw] at this
    rw [← this]
    rcases xtw_cases (S := SX) with q | q <;> rw [q] <;> exact (x _ 5 rfl).symm
  obtain ⟨⟨a1, -, a3⟩, ⟨b1, -, b3⟩, -⟩ := hT
  have q0 : n0 = tn0 Z := (nI_eq (by omega) (by have := Zk.1.2; omega)).mp (a1.symm.trans e0)
  have q1 : n1 = tn1 Z := (nI_eq (by omega) (by have := Zk.2.1.2; omega)).mp (b1.symm.trans e5)
  subst q0 q1
  have fm : ∀ i, (∀ j, mQ i j = false) → SM' i = SM i := fun i hi => funext fun j => m i j (hi j)
  refine ⟨?_, hI.on (x 0 8 rfl) (fun i j h1 h2 => x i j ?_) (fun i j h1 h2 => m i j ?_) (m 99 57 rfl) (m 99 58 rfl) (m 99 59 rfl)⟩
  · obtain ⟨-, ⟨a, f1, f2, f3, f4⟩, ⟨q, g1, g2, g3, g4⟩, t⟩ := hN
    have x7 : SX' (20 + 7) = SX (20 + 7) := funext fun j => x 27 j rfl
    have m36 : SM' 36 = SM 36 := fm 36 (fun _ => rfl)
    refine ⟨jSt_of C M K h9, ⟨a, f1, by rw [x (20 + 6) 1 rfl]; exact f2, by rw [m 99 39 rfl]; exact f3, fun i hi => ?_⟩, ⟨q, g1, by rw [x (20 + 8) 3 rfl]; exact g2, by rw [m 99 40 rfl]; exact g3, fun i hi => ?_⟩, fun i hi => ?_⟩
    · refine (f4 i hi).on (fun c g _ _ => ?_) (fun c g _ _ => ?_)
      · unfold xAc
        rw [x7]
      · unfold mAc
        rw [m36]
    · rw [x (20 + 9) i rfl, x (20 + 10) i rfl, x (20 + 11) i rfl, m 48 i rfl, m 49 i rfl, m 50 i rfl]
      exact g4 i hi
    · rw [x (20 + 12) i rfl, m 17 i rfl]
      exact t i hi
  · rcases (show i = 34 ∨ i = 35 ∨ i = 36 ∨ i = 37 ∨ i = 38 ∨ i = 39 ∨ i = 40 ∨ i = 41 ∨ i = 42 ∨ i = 43 ∨ i = 44 ∨ i = 45 by omega) with rfl | rfl | rfl | rfl | rfl | rfl | rfl | rfl | rfl | rfl | rfl | rfl <;> rfl
  · rcases (show i = 60 ∨ i = 61 ∨ i = 62 ∨ i = 63 ∨ i = 64 ∨ i = 65 by omega) with rfl | rfl | rfl | rfl | rfl | rfl <;> rfl
/-! the class writes a row -/
theorem ix4 (a k : Nat) : (nI a + 2) + 4 * nI k = nI (a + 2 + 4 * k) := by rw [show (2 : Int32) = nI 2 from rfl, show (4 : Int32) = nI 4 from rfl, pk_mul, nI_add, nI_add]
theorem ixp (a : Nat) : nI a + 1 = nI (a + 1) ∧ nI a + 2 = nI (a + 2) ∧ nI a + 3 = nI (a + 3) := ⟨nI_add a 1, nI_add a 2, nI_add a 3⟩
/-- the row nd holds from a on what the state st holds in S -/
def xPk (st nd a : Nat) (S S' : gS) : Prop := S' nd a = S st 0 ∧ S' nd (a + 1) = S st 1 ∧ ∀ g, g < 6 → S' nd (a + 2 + 4 * g) = S (st + 1) g ∧ S' nd (a + 2 + 4 * g + 1) = S (st + 2) g ∧ S' nd (a + 2 + 4 * g + 2) = S (st + 3) g ∧ S' nd (a + 2 + 4 * g + 3) = S (st + 4) g
theorem x_write {N st nd a : Nat} {S : gS} (hst : st + 4 < nd) (hm : xN nd = 1040) (h26 : a + 26 ≤ 1040) (hN : 700 < N) : ∃ S', fX7_write N st nd (nI a) S = some (0, S') ∧ (∀ i j, ¬ (i = nd ∧ a ≤ j ∧ j < a + 26) → S' i j = S i j) ∧ xPk st nd a S S' := by
  obtain ⟨S0, e0⟩ : ∃ z, z = sU (sU S nd a (S st 0)) nd (a + 1) (S st 1) := ⟨_, rfl⟩
  have main : Gv (fX7_write_h32 N N st nd (nI a) 0 S0) (fun r => r.1 = 0 ∧ (∀ i j, ¬ (i = nd ∧ a ≤ j ∧ j < a + 26) → r.2 i j = S i j) ∧ xPk st nd a S r.2) := by
    refine loopG (A := gS) (fun f g S => fX7_write_h32 N f st nd (nI a) (nI g) S) (fun g S' => (∀ i j, ¬ (i = nd ∧ a ≤ j ∧ j < a + 26) → S' i j = S i j) ∧ S' nd a = S st 0 ∧ S' nd (a + 1) = S st 1 ∧ ∀ g', g' < g → S' nd (a + 2 + 4 * g') = S (st + 1) g' ∧ S' nd (a + 2 + 4 * g' + 1) = S (st + 2) g' ∧ S' nd (a + 2 + 4 * g' + 2) = S (st + 3) g' ∧ S' nd (a + 2 + 4 * g' + 3) = S (st + 4) g') _ 6 ?_ ?_ 6 0 S0 N (by omega) ⟨fun i j hij => by rw [e0, sU_n (by omega), sU_n (by omega)], by rw [e0, sU_n (by omega), sU_s], by rw [e0, sU_s], fun g' hg' => by omega⟩ (by omega)
    · rintro f S1 ⟨i1, i2, i3, i4⟩
      exact ⟨(0, S1), rfl, rfl, i1, i2, i3, i4⟩
    · rintro f g S1 hg ⟨i1, i2, i3, i4⟩
      refine Or.inr ?_
      have hgc : (nI g).toNatClampNeg = g := nI_clamp (by omega)
      have hin : inb (nI g) 6 = true := inb_t hg (by decide)
      obtain ⟨x1, x2, x3⟩ := ixp (a + 2 + 4 * g)
      obtain ⟨A1, f1⟩ : ∃ z, z = sU S1 nd (a + 2 + 4 * g) (S (st + 1) g) := ⟨_, rfl⟩
      obtain ⟨A2, f2⟩ : ∃ z, z = sU A1 nd (a + 2 + 4 * g + 1) (S (st + 2) g) := ⟨_, rfl⟩
      obtain ⟨A3, f3⟩ : ∃ z, z = sU A2 nd (a + 2 + 4 * g + 2) (S (st + 3) g) := ⟨_, rfl⟩
      obtain ⟨A4, f4⟩ : ∃ z, z = sU A3 nd (a + 2 + 4 * g + 3) (S (st + 4) g) := ⟨_, rfl⟩
      have s4 : ∀ i j, ¬ (i = nd ∧ a + 2 + 4 * g ≤ j ∧ j ≤ a + 2 + 4 * g + 3) → A4 i j = S1 i j := fun i j hij => by rw [f4, sU_n (by omega), f3, sU_n (by omega), f2, sU_n (by omega), f1, sU_n (by omega)]
      refine ⟨A4, ⟨fun i j hij => by rw [s4 i j (by omega)]; exact i1 i j hij, by rw [s4 nd a (by omega)]; exact i2, by rw [s4 nd (a + 1) (by omega)]; exact i3, fun g' hg' => ?_⟩, ?_⟩
      · by_cases hh : g' = g
        · subst hh
          refine ⟨?_, ?_, ?_, ?_⟩
          · rw [f4, sU_n (by omega), f3, sU_n (by omega), f2, sU_n (by omega), f1, sU_s]
          · rw [f4, sU_n (by omega), f3, sU_n (by omega), f2, sU_s]
          · rw [f4, sU_n (by omega), f3, sU_s]
          · rw [f4, sU_s]
        · rw [s4 nd (a + 2 + 4 * g') (by omega), s4 nd (a + 2 + 4 * g' + 1) (by omega), s4 nd (a + 2 + 4 * g' + 2) (by omega), s4 nd (a + 2 + 4 * g' + 3) (by omega)]
          exact i4 g' (by omega)
      · show fX7_write_b32 N (fX7_write_h32 N f) st nd (nI a) (nI g) S1 = _
        unfold fX7_write_b32
        rw [if_neg (show ¬ (6 : Int32) ≤ nI g from nI_ge (b := 6) hg (by decide))]
        unfold fX7_write_b38
        dsimp only [lt]
        rw [ix4, x1, x2, x3, hgc, hm, nI_clamp (n := a + 2 + 4 * g) (by omega), nI_clamp (n := a + 2 + 4 * g + 1) (by omega), nI_clamp (n := a + 2 + 4 * g + 2) (by omega), nI_clamp (n := a + 2 + 4 * g + 3) (by omega)]
        rw [chk_t hin, chk_t (inb_t (k := a + 2 + 4 * g) (by omega) (by decide)), i1 (st + 1) g (by omega), ← f1, chk_t hin, chk_t (inb_t (k := a + 2 + 4 * g + 1) (by omega) (by decide)), show A1 (st + 2) g = S (st + 2) g by rw [f1, sU_n (by omega)]; exact i1 _ _ (by omega), ← f2, chk_t hin, chk_t (inb_t (k := a + 2 + 4 * g + 2) (by omega) (by decide)), show A2 (st + 3) g = S (st + 3) g by rw [f2, sU_n (by omega), f1, sU_n (by omega)]; exact i1 _ _ (by omega), ← f3, chk_t hin, chk_t (inb_t (k := a + 2 + 4 * g + 3) (by omega) (by decide)), show A3 (st + 4) g = S (st + 4) g by rw [f3, sU_n (by omega), f2, sU_n (by omega), f1, sU_n (by omega)]; exact i1 _ _ (by omega), ← f4, nI_1]
  obtain ⟨⟨v, S'⟩, r1, r2, r3⟩ := main
  dsimp only at r2 r3
  subst r2
  refine ⟨S', ?_, r3⟩
  unfold fX7_write fX7_write_b0
  rw [if_neg (nI_pos (by omega))]
  unfold fX7_write_b4
  rw [show (26 : Int32) = nI 26 from rfl, nI_add, hm, if_pos (show nI (a + 26) ≤ Int32.ofNat 1040 from nI_le (b := 1040) (by omega) (by decide))]
  unfold fX7_write_b14
  dsimp only [lt]
  rw [hm, nI_1, nI_clamp (n := a) (by omega), nI_clamp (n := a + 1) (by omega), chk_t (inb_t (k := a) (by omega) (by decide)), chk_t (inb_t (k := a + 1) (by omega) (by decide)), sU_n (i := st) (by omega), ← e0]
  exact r1
theorem x_read {N st nd a : Nat} {S : gS} (hst : st + 4 < nd) (hm : xN nd = 1040) (h26 : a + 26 ≤ 1040) (hN : 700 < N) : ∃ S', fX7_read N st nd (nI a) S = some (0, S') ∧ (∀ i j, ¬ (i = st ∧ j ≤ 1) → ¬ (st + 1 ≤ i ∧ i ≤ st + 4 ∧ j < 6) → S' i j = S i j) ∧ xPk st nd a S' S := by
  obtain ⟨S0, e0⟩ : ∃ z, z = sU (sU S st 0 (S nd a)) st 1 (S nd (a + 1)) := ⟨_, rfl⟩
  have main : Gv (fX7_read_h32 N N st nd (nI a) 0 S0) (fun r => r.1 = 0 ∧ (∀ i j, ¬ (i = st ∧ j ≤ 1) → ¬ (st + 1 ≤ i ∧ i ≤ st + 4 ∧ j < 6) → r.2 i j = S i j) ∧ xPk st nd a r.2 S) := by
    refine loopG (A := gS) (fun f g S => fX7_read_h32 N f st nd (nI a) (nI g) S) (fun g S' => (∀ i j, ¬ (i = st ∧ j ≤ 1) → ¬ (st + 1 ≤ i ∧ i ≤ st + 4 ∧ j < 6) → S' i j = S i j) ∧ S nd a = S' st 0 ∧ S nd (a + 1) = S' st 1 ∧ ∀ g', g' < g → S nd (a + 2 + 4 * g') = S' (st + 1) g' ∧ S nd (a + 2 + 4 * g' + 1) = S' (st + 2) g' ∧ S nd (a + 2 + 4 * g' + 2) = S' (st + 3) g' ∧ S nd (a + 2 + 4 * g' + 3) = S' (st + 4) g') _ 6 ?_ ?_ 6 0 S0 N (by omega) ⟨fun i j h1 h2 => by rw [e0, sU_n (by omega), sU_n (by omega)], by rw [e0, sU_n (by omega), sU_s], by rw [e0, sU_s], fun g' hg' => by omega⟩ (by omega)
    · rintro f S1 ⟨i1, i2, i3, i4⟩
      exact ⟨(0, S1), rfl, rfl, i1, i2, i3, i4⟩
    · rintro f g S1 hg ⟨i1, i2, i3, i4⟩
      refine Or.inr ?_
      have hgc : (nI g).toNatClampNeg = g := nI_clamp (by omega)
      have hin : inb (nI g) 6 = true := inb_t hg (by decide)
      obtain ⟨x1, x2, x3⟩ := ixp (a + 2 + 4 * g)
      obtain ⟨A1, f1⟩ : ∃ z, z = sU S1 (st + 1) g (S nd (a + 2 + 4 * g)) := ⟨_, rfl⟩
      obtain ⟨A2, f2⟩ : ∃ z, z = sU A1 (st + 2) g (S nd (a + 2 + 4 * g + 1)) := ⟨_, rfl⟩
      obtain ⟨A3, f3⟩ : ∃ z, z = sU A2 (st + 3) g (S nd (a + 2 + 4 * g + 2)) := ⟨_, rfl⟩
      obtain ⟨A4, f4⟩ : ∃ z, z = sU A3 (st + 4) g (S nd (a + 2 + 4 * g + 3)) := ⟨_, rfl⟩
      have s4 : ∀ i j, ¬ (st + 1 ≤ i ∧ i ≤ st + 4 ∧ j = g) → A4 i j = S1 i j := fun i j hij => by rw [f4, sU_n (by omega), f3, sU_n (by omega), f2, sU_n (by omega), f1, sU_n (by omega)]
      refine ⟨A4, ⟨fun i j h1 h2 => by rw [s4 i j (by omega)]; exact i1 i j h1 h2, by rw [s4 st 0 (by omega)]; exact i2, by rw [s4 st 1 (by omega)]; exact i3, fun g' hg' => ?_⟩, ?_⟩
      · by_cases hh : g' = g
        · subst hh
          refine ⟨?_, ?_, ?_, ?_⟩
          · rw [f4, sU_n (by omega), f3, sU_n (by omega), f2, sU_n (by omega), f1, sU_s]
          · rw [f4, sU_n (by omega), f3, sU_n (by omega), f2, sU_s]
          · rw [f4, sU_n (by omega), f3, sU_s]
          · rw [f4, sU_s]
        · rw [s4 (st + 1) g' (by omega), s4 (st + 2) g' (by omega), s4 (st + 3) g' (by omega), s4 (st + 4) g' (by omega)]
          exact i4 g' (by omega)
      · show fX7_read_b32 N (fX7_read_h32 N f) st nd (nI a) (nI g) S1 = _
        unfold fX7_read_b32
        rw [if_neg (show ¬ (6 : Int32) ≤ nI g from nI_ge (b := 6) hg (by decide))]
        unfold fX7_read_b38
        dsimp only [lt]
        rw [ix4, x1, x2, x3, hgc, hm, nI_clamp (n := a + 2 + 4 * g) (by omega), nI_clamp (n := a + 2 + 4 * g + 1) (by omega), nI_clamp (n := a + 2 + 4 * g + 2) (by omega), nI_clamp (n := a + 2 + 4 * g + 3) (by omega)]
        rw [chk_t (inb_t (k := a + 2 + 4 * g) (by omega) (by decide)), chk_t hin, i1 nd (a + 2 + 4 * g) (by omega) (by omega), ← f1, chk_t (inb_t (k := a + 2 + 4 * g + 1) (by omega) (by decide)), chk_t hin, show A1 nd (a + 2 + 4 * g + 1) = S nd (a + 2 + 4 * g + 1) by rw [f1, sU_n (by omega)]; exact i1 _ _ (by omega) (by omega), ← f2, chk_t (inb_t (k := a + 2 + 4 * g + 2) (by omega) (by decide)), chk_t hin, show A2 nd (a + 2 + 4 * g + 2) = S nd (a + 2 + 4 * g + 2) by rw [f2, sU_n (by omega), f1, sU_n (by omega)]; exact i1 _ _ (by omega) (by omega), ← f3, chk_t (inb_t (k := a + 2 + 4 * g + 3) (by omega) (by decide)), chk_t hin, show A3 nd (a + 2 + 4 * g + 3) = S nd (a + 2 + 4 * g + 3) by rw [f3, sU_n (by omega), f2, sU_n (by omega), f1, sU_n (by omega)]; exact i1 _ _ (by omega) (by omega), ← f4, nI_1]
  obtain ⟨⟨v, S'⟩, r1, r2, r3⟩ := main
  dsimp only at r2 r3
  subst r2
  refine ⟨S', ?_, r3⟩
  unfold fX7_read fX7_read_b0
  rw [if_neg (nI_pos (by omega))]
  unfold fX7_read_b4
  rw [show (26 : Int32) = nI 26 from rfl, nI_add, hm, if_pos (show nI (a + 26) ≤ Int32.ofNat 1040 from nI_le (b := 1040) (by omega) (by decide))]
  unfold fX7_read_b14
  dsimp only [lt]
  rw [hm, nI_1, nI_clamp (n := a) (by omega), nI_clamp (n := a + 1) (by omega), chk_t (inb_t (k := a) (by omega) (by decide)), chk_t (inb_t (k := a + 1) (by omega) (by decide)), sU_n (i := nd) (by omega), ← e0]
  exact r1
