/-! part 47.asit -/
section
/-! what is so now, as a picture; ways of GUILDS through HOURS -/
noncomputable def trj (Z : gS) (e d : Int32) (wf : Nat → Int32) (h : Nat) (q : qT) : Nat → qT
  | 0 => q
  | n + 1 => (hG Z e d (wf (h + n)) (nI (h + n)) (trj Z e d wf h q n)).2
noncomputable def trB (Z : gS) (e d : Int32) (wf : Nat → Int32) (h : Nat) (q : qT) (n : Nat) : Bool := (hG Z e d (wf (h + n)) (nI (h + n)) (trj Z e d wf h q n)).1
def eOK (e : Int32) : Prop := ∃ x : Nat, x ≤ 9 ∧ e = nI x
theorem trj_ok {Z : gS} {e d : Int32} {wf : Nat → Int32} {h n0 : Nat} {q : qT} (hq : qOK n0 q) (he : eOK e) : ∀ n, qOK n0 (trj Z e d wf h q n) := by
  intro n
  induction n with
  | zero => exact hq
  | succ n ih => exact hG_ok ih he
theorem trj_hired {Z : gS} {e d : Int32} {wf : Nat → Int32} {h : Nat} {q : qT} : ∀ n, (trj Z e d wf h q n).2.2.2 = -1 ∨ (trj Z e d wf h q n).2.2.2 = q.2.2.2 := by
  intro n
  induction n with
  | zero => exact Or.inr rfl
  | succ n ih =>
    rcases hG_hired (Z := Z) (e := e) (d := d) (we := wf (h + n)) (ho := nI (h + n)) (q := trj Z e d wf h q n) with h1 | h1
    · exact Or.inl h1
    · rcases ih with h2 | h2
      · exact Or.inl (h1.trans h2)
      · exact Or.inr (h1.trans h2)
def qsOK (Z : gS) (e : Nat → Int32) (qs : Nat → qT) : Prop := (∀ g, g < tn1 Z → qOK (tn0 Z) (qs g)) ∧ (∀ g g', g < tn1 Z → g' < tn1 Z → (qs g).2.2.2 = (qs g').2.2.2 → (qs g).2.2.2 ≠ -1 → g = g') ∧ ∀ g, g < tn1 Z → eOK (e g)
def mSit (Z S : gS) (h : Nat) (d : Int32) (e : Nat → Int32) (qs : Nat → qT) : Prop := tM Z S ∧ (∀ g, g < tn1 Z → S 18 g = e g) ∧ S 99 37 = nI h ∧ S 99 38 = d ∧ rowsM (tn1 Z) S qs
noncomputable def nxt (Z : gS) (h : Nat) (d we : Int32) (e : Nat → Int32) (qs : Nat → qT) : Nat → qT := fun g => (hG Z (e g) d we (nI h) (qs g)).2
theorem qsOK.nx {Z : gS} {h : Nat} {d we : Int32} {e : Nat → Int32} {qs : Nat → qT} (K : qsOK Z e qs) : qsOK Z e (nxt Z h d we e qs) := by
  obtain ⟨k1, k2, k3⟩ := K
  refine ⟨fun g hg => hG_ok (k1 g hg) (k3 g hg), fun g g' hg hg' h1 h2 => ?_, k3⟩
  rcases hG_hired (Z := Z) (e := e g) (d := d) (we := we) (ho := nI h) (q := qs g) with a | a
  · exact absurd a h2
  · rcases hG_hired (Z := Z) (e := e g') (d := d) (we := we) (ho := nI h) (q := qs g') with b | b
    · exact absurd (h1.trans b) h2
    · exact k2 g g' hg hg' (a.symm.trans (h1.trans b)) (fun q => h2 (a.trans q))
theorem qsOK.tr {Z : gS} {h : Nat} {d : Int32} {wf : Nat → Int32} {e : Nat → Int32} {qs : Nat → qT} (K : qsOK Z e qs) (n : Nat) : qsOK Z e (fun g => trj Z (e g) d wf h (qs g) n) := by
  induction n with
  | zero => exact K
  | succ n ih => exact ih.nx (h := h + n) (d := d) (we := wf (h + n))
def qsH (Z : gS) (qs : Nat → qT) : Prop := (∀ g, g < tn1 Z → hOK (tn0 Z) (qs g)) ∧ ∀ g g', g < tn1 Z → g' < tn1 Z → (qs g).2.2.2 = (qs g').2.2.2 → (qs g).2.2.2 ≠ -1 → g = g'
theorem qsOK.h {Z : gS} {e : Nat → Int32} {qs : Nat → qT} (K : qsOK Z e qs) : qsH Z qs := ⟨fun g hg => (K.1 g hg).2.2.2, K.2.1⟩
theorem qsH.nx {Z : gS} {h : Nat} {d we : Int32} {e : Nat → Int32} {qs : Nat → qT} (K : qsH Z qs) : qsH Z (nxt Z h d we e qs) := by
  obtain ⟨k1, k2⟩ := K
  refine ⟨fun g hg => ?_, fun g g' hg hg' h1 h2 => ?_⟩
  · rcases hG_hired (Z := Z) (e := e g) (d := d) (we := we) (ho := nI h) (q := qs g) with a | a
    · exact Or.inl a
    · unfold hOK
      rw [show (nxt Z h d we e qs g).2.2.2 = (qs g).2.2.2 from a]
      exact k1 g hg
  · rcases hG_hired (Z := Z) (e := e g) (d := d) (we := we) (ho := nI h) (q := qs g) with a | a
    · exact absurd a h2
    · rcases hG_hired (Z := Z) (e := e g') (d := d) (we := we) (ho := nI h) (q := qs g') with b | b
      · exact absurd (h1.trans b) h2
      · exact k2 g g' hg hg' (a.symm.trans (h1.trans b)) (fun q => h2 (a.trans q))
theorem qsH.tr {Z : gS} {h : Nat} {d : Int32} {wf : Nat → Int32} {e : Nat → Int32} {qs : Nat → qT} (K : qsH Z qs) (n : Nat) : qsH Z (fun g => trj Z (e g) d wf h (qs g) n) := by
  induction n with
  | zero => exact K
  | succ n ih => exact ih.nx (h := h + n) (d := d) (we := wf (h + n)) (e := e)
theorem wetZ_pos {Z : gS} {h : Nat} (Zk : tOK Z) : 0 ≤ wetZ Z h := wetS_pos Zk.2.2.1.2.2
theorem mHo.sit0 {Z S S' : gS} {e : Nat → Int32} (s : oSame mHo S S') (hM : tM Z S) (he : ∀ g, g < tn1 Z → S 18 g = e g) : tM Z S' ∧ (∀ g, g < tn1 Z → S' 18 g = e g) ∧ S' 99 38 = S 99 38 ∧ S' 99 41 = S 99 41 := by
  refine ⟨hM.on (fun i j h1 h2 => s i j ?_), fun g hg => by rw [s 18 g rfl]; exact he g hg, s 99 38 rfl, s 99 41 rfl⟩
  rcases (show i = 5 ∨ i = 6 ∨ i = 7 ∨ i = 8 ∨ i = 9 ∨ i = 10 ∨ i = 11 ∨ i = 12 ∨ i = 13 ∨ i = 14 ∨ i = 15 ∨ i = 16 by omega) with rfl | rfl | rfl | rfl | rfl | rfl | rfl | rfl | rfl | rfl | rfl | rfl <;> rfl
section
variable {N h : Nat} {Z S : gS} {d we : Int32} {e : Nat → Int32} {qs : Nat → qT}
theorem m_step (Zk : tOK Z) (K : qsH Z qs) (hb : h < 2 ^ 30) (hN : 700 < N) (M : mSit Z S h d e qs) (hw : mW Z S we h) (hw0 : 0 ≤ we) : ∃ S', fX12_anHour N S = some (0, S') ∧ mSit Z S' (h + 1) d e (nxt Z h d we e qs) ∧ S' 99 45 = drB (fun g => (hG Z (e g) d we (nI h) (qs g)).1) (tn1 Z) 0 0 ∧ oSame mHo S S' := by
  obtain ⟨m1, m2, m3, m4, m5⟩ := M
  obtain ⟨S', r1, r2, r3, r4, r5⟩ := m_anHour (N := N) Zk K.1 K.2 hb hN m1 m2 m3 m4 hw hw0 m5
  obtain ⟨a1, a2, a3, a4⟩ := mHo.sit0 r5 m1 m2
  exact ⟨S', r1, ⟨a1, a2, r3, a3.trans m4, r2⟩, r4, r5⟩
theorem m_step1 (Zk : tOK Z) (K : qsH Z qs) (hb : h < 2 ^ 30) (hN : 700 < N) (M : mSit Z S h d e qs) (h41 : S 99 41 = -1) : ∃ S', fX12_anHour N S = some (0, S') ∧ mSit Z S' (h + 1) d e (nxt Z h d (wetZ Z h) e qs) ∧ S' 99 45 = drB (fun g => (hG Z (e g) d (wetZ Z h) (nI h) (qs g)).1) (tn1 Z) 0 0 ∧ oSame mHo S S' := m_step Zk K hb hN M (Or.inr ⟨h41, rfl⟩) (wetZ_pos Zk)
theorem m_goOn {n : Nat} (Zk : tOK Z) (K : qsH Z qs) (hb : h + n < 2 ^ 30) (hN : 700 < N) (hn : n < 700) (M : mSit Z S h d e qs) (h41 : S 99 41 = -1) : ∃ S', fX12_goOn N (nI n) S = some (0, S') ∧ mSit Z S' (h + n) d e (fun g => trj Z (e g) d (wetZ Z) h (qs g) n) ∧ oSame mHo S S' := by
  have main : Gv (fX12_goOn_h2 N N (nI n) 0 S) (fun r => r.1 = 0 ∧ mSit Z r.2 (h + n) d e (fun g => trj Z (e g) d (wetZ Z) h (qs g) n) ∧ oSame mHo S r.2) := by
    refine loopG (fun f k S => fX12_goOn_h2 N f (nI n) (nI k) S) (fun k S' => mSit Z S' (h + k) d e (fun g => trj Z (e g) d (wetZ Z) h (qs g) k) ∧ oSame mHo S S') _ n ?_ ?_ n 0 S N (by omega) ⟨M, oSame.rf⟩ (by omega)
    · rintro f S1 ⟨i1, i2⟩
      show Gv (fX12_goOn_b2 N _ (nI n) (nI n) S1) _
      unfold fX12_goOn_b2
      rw [if_pos (nI_le (Nat.le_refl _) (by omega))]
      exact ⟨(0, S1), rfl, rfl, i1, i2⟩
    · rintro f k S1 hk ⟨i1, i2⟩
      refine Or.inr ?_
      obtain ⟨S2, r1, r2, -, r4⟩ := m_step1 (N := N) Zk (K.tr (wf := wetZ Z) (h := h) (d := d) (e := e) k) (by omega) hN i1 (by rw [i2 99 41 rfl]; exact h41)
      refine ⟨S2, ⟨r2, i2.tr r4⟩, ?_⟩
      show fX12_goOn_b2 N (fX12_goOn_h2 N f) (nI n) (nI k) S1 = _
      unfold fX12_goOn_b2
      rw [if_neg (nI_ge hk (by omega))]
      unfold fX12_goOn_b7
      rw [bnd_t r1, nI_1]
  obtain ⟨⟨v, S'⟩, r1, r2, r3⟩ := main
  dsimp only at r2 r3
  subst r2
  exact ⟨S', r1, r3⟩
end
/-! the class's side -/
def cSit (nd : Nat) (Z S : gS) (h : Nat) (d : Int32) (qs : Nat → qT) : Prop := tXz (xtw S) Z S ∧ S nd 0 = nI h ∧ S nd 1 = d ∧ ∀ g, g < tn1 Z → S (nd + 1) g = (qs g).1 ∧ S (nd + 2) g = (qs g).2.1 ∧ S (nd + 3) g = (qs g).2.2.1 ∧ S (nd + 4) g = (qs g).2.2.2
theorem xWk_f {i j : Nat} (h : i ≠ 51 ∧ i ≠ 16 ∧ i ≠ 19 ∧ i ≠ 84 ∧ i ≠ 87) : xWk i j = false := by
  unfold xWk
  rw [beq_false_of_ne h.1, beq_false_of_ne h.2.1, beq_false_of_ne h.2.2.1, beq_false_of_ne h.2.2.2.1, beq_false_of_ne h.2.2.2.2]
  rfl
theorem xWk.tw {S S' : gS} (s : oSame xWk S S') : xtw S' = xtw S := by
  unfold xtw
  rw [s 0 7 rfl]
theorem xWk.same {S S' : gS} (s : oSame xWk S S') : xSame S S' := by
  intro i j h
  refine s i j (xWk_f ?_)
  refine ⟨?_, ?_, ?_, ?_, ?_⟩ <;> intro q <;> rw [q] at h <;> cases h
theorem cSit.on {nd : Nat} {Z S S' : gS} {h : Nat} {d : Int32} {qs : Nat → qT} (hnd : nd = 21 ∨ nd = 46) (C : cSit nd Z S h d qs) (s : oSame xWk S S') : cSit nd Z S' h d qs := by
  obtain ⟨c1, c2, c3, c4⟩ := C
  have hs : ∀ i j, nd ≤ i → i ≤ nd + 4 → S' i j = S i j := fun i j h1 h2 => s i j (xWk_f (by omega))
  refine ⟨by rw [xWk.tw s]; exact c1.on xtw_cases s, by rw [hs nd 0 (by omega) (by omega)]; exact c2, by rw [hs nd 1 (by omega) (by omega)]; exact c3, fun g hg => ?_⟩
  rw [hs (nd + 1) g (by omega) (by omega), hs (nd + 2) g (by omega) (by omega), hs (nd + 3) g (by omega) (by omega), hs (nd + 4) g (by omega) (by omega)]
  exact c4 g hg
section
variable {N nd h g : Nat} {Z S : gS} {d : Int32} {qs : Nat → qT}
theorem x_begin6 (hnd : nd = 21 ∨ nd = 46) (Zk : tOK Z) (C : cSit nd Z S h d qs) (hg : g < tn1 Z) (hb : h < 2 ^ 31) : ∃ S', fX10_begin N (xtw S) nd (nI g) S = some (0, S') ∧ wkA S' (Z 5 g) d (nI h) (qs g) ∧ oSame xWk S S' ∧ S' 51 6 = wetZ Z h := by
  obtain ⟨c1, c2, c3, c4⟩ := C
  obtain ⟨g1, g2, g3, g4⟩ := c4 g hg
  have z6 := Zk.2.1.2
  have hT := xtw_cases (S := S)
  generalize hTT : xtw S = T at c1 hT ⊢
  have hgc : (nI g).toNatClampNeg = g := nI_clamp (by omega)
  have hin : inb (nI g) 6 = true := inb_t (by omega) (by decide)
  have t5 : S T 5 = nI (tn1 Z) := (c1 0 5 (by omega) (by omega)).trans Zk.2.1.1
  obtain ⟨S1, e1⟩ : ∃ z, z = sU S 51 0 (Z 5 g) := ⟨_, rfl⟩
  have s1 : ∀ i j, i ≠ 51 → S1 i j = S i j := fun i j hi => by rw [e1, sU_n (by omega)]
  obtain ⟨S2, e2⟩ : ∃ z, z = sU S1 51 1 (qs g).1 := ⟨_, rfl⟩
  have s2 : ∀ i j, i ≠ 51 → S2 i j = S i j := fun i j hi => by rw [e2, sU_n (by omega), s1 i j hi]
  obtain ⟨S3, e3⟩ : ∃ z, z = sU S2 51 2 (qs g).2.1 := ⟨_, rfl⟩
  have s3 : ∀ i j, i ≠ 51 → S3 i j = S i j := fun i j hi => by rw [e3, sU_n (by omega), s2 i j hi]
  obtain ⟨S4, e4⟩ : ∃ z, z = sU S3 51 3 (qs g).2.2.1 := ⟨_, rfl⟩
  have s4 : ∀ i j, i ≠ 51 → S4 i j = S i j := fun i j hi => by rw [e4, sU_n (by omega), s3 i j hi]
  obtain ⟨S5, e5⟩ : ∃ z, z = sU S4 51 4 (qs g).2.2.2 := ⟨_, rfl⟩
  have s5 : ∀ i j, i ≠ 51 → S5 i j = S i j := fun i j hi => by rw [e5, sU_n (by omega), s4 i j hi]
  obtain ⟨S6, e6⟩ : ∃ z, z = sU S5 51 5 (nI h) := ⟨_, rfl⟩
  have s6 : ∀ i j, i ≠ 51 → S6 i j = S i j := fun i j hi => by rw [e6, sU_n (by omega), s5 i j hi]
  have h65 : S6 51 5 = nI h := by rw [e6, sU_s]
  have hw : fX9_wetOf N T (nI h) S6 = some (wetS (tnw Z) (S6 (T + 9)) h, S6) := x_wetOf (by rw [s6 T 10 (by omega)]; exact (c1 0 10 (by omega) (by omega)).trans Zk.2.2.1.1) Zk.2.2.1.2.1 hb
  refine ⟨sU (sU S6 51 6 (wetS (tnw Z) (S6 (T + 9)) h)) 51 7 d, ?_, ⟨?_, ?_, ?_, ?_, ?_, ?_, sU_s⟩, fun i j hij => ?_, ?_⟩
  · unfold fX10_begin fX10_begin_b0
    rw [bnd_t (x_isGuild t5 (by omega)), inb_t hg (by omega)]
    show fX10_begin_b9 N T nd (nI g) S = _
    unfold fX10_begin_b9
    dsimp only [lt]
    rw [hgc, chk_t hin, c1 5 g (by omega) (by omega), ← e1, chk_t hin, s1 (nd + 1) g (by omega), g1, ← e2, chk_t hin, s2 (nd + 2) g (by omega), g2, ← e3, chk_t hin, s3 (nd + 3) g (by omega), g3, ← e4, chk_t hin, s4 (nd + 4) g (by omega), g4, ← e5, s5 nd 0 (by omega), c2, ← e6, h65, bnd_t hw]
    dsimp only
    rw [sU_n (i := nd) (by omega), s6 nd 1 (by omega), c3]
  · rw [sU_n (by omega), sU_n (by omega), e6, sU_n (by omega), e5, sU_n (by omega), e4, sU_n (by omega), e3, sU_n (by omega), e2, sU_n (by omega), e1, sU_s]
  · rw [sU_n (by omega), sU_n (by omega), e6, sU_n (by omega), e5, sU_n (by omega), e4, sU_n (by omega), e3, sU_n (by omega), e2, sU_s]
  · rw [sU_n (by omega), sU_n (by omega), e6, sU_n (by omega), e5, sU_n (by omega), e4, sU_n (by omega), e3, sU_s]
  · rw [sU_n (by omega), sU_n (by omega), e6, sU_n (by omega), e5, sU_n (by omega), e4, sU_s]
  · rw [sU_n (by omega), sU_n (by omega), e6, sU_n (by omega), e5, sU_s]
  · rw [sU_n (by omega), sU_n (by omega), e6, sU_s]
  · have h51 : i ≠ 51 := fun q => by rw [q] at hij; cases hij
    rw [sU_n (by omega), sU_n (by omega), s6 i j h51]
  · rw [sU_n (by omega), sU_s]
    unfold wetZ
    rw [show S6 (T + 9) = Z 9 from funext fun j => (s6 (T + 9) j (by omega)).trans (c1 9 j (by omega) (by omega))]
theorem x_begin (hnd : nd = 21 ∨ nd = 46) (Zk : tOK Z) (C : cSit nd Z S h d qs) (hg : g < tn1 Z) (hb : h < 2 ^ 31) : ∃ S', fX10_begin N (xtw S) nd (nI g) S = some (0, S') ∧ wkA S' (Z 5 g) d (nI h) (qs g) ∧ oSame xWk S S' := by
  obtain ⟨S', a, b, c, -⟩ := x_begin6 (N := N) hnd Zk C hg hb
  exact ⟨S', a, b, c⟩
end
section
variable {N h T : Nat} {Z S : gS} {d e : Int32} {q : qT}
theorem x_wetZ (Zk : tOK Z) (hx : tXz T Z S) (hb : h < 2 ^ 31) : fX9_wetOf N T (nI h) S = some (wetZ Z h, S) := by
  rw [x_wetOf (S := S) (T := T) (n := tnw Z) ((hx 0 10 (by omega) (by omega)).trans Zk.2.2.1.1) Zk.2.2.1.2.1 hb]
  unfold wetZ
  rw [show S (T + 9) = Z 9 from funext fun j => hx 9 j (by omega) (by omega)]
theorem x_passHours {n : Nat} (hT : T = 72 ∨ T = 4) (Zk : tOK Z) (hx : tXz T Z S) (hq : qOK (tn0 Z) q) (he : eOK e) (W : wkA S e d (nI h) q) (hb : h + n < 2 ^ 30) (hn : n < 700) (hN : 700 < N) : ∃ S', fX10_passHours N T (nI n) S = some (0, S') ∧ wkA S' e d (nI (h + n)) (trj Z e d (wetZ Z) h q n) ∧ oSame xWk S S' := by
  have main : Gv (fX10_passHours_h2 N N T (nI n) 0 S) (fun r => r.1 = 0 ∧ wkA r.2 e d (nI (h + n)) (trj Z e d (wetZ Z) h q n) ∧ oSame xWk S r.2) := by
    refine loopG (fun f k S => fX10_passHours_h2 N f T (nI n) (nI k) S) (fun k S' => wkA S' e d (nI (h + k)) (trj Z e d (wetZ Z) h q k) ∧ oSame xWk S S') _ n ?_ ?_ n 0 S N (by omega) ⟨W, oSame.rf⟩ (by omega)
    · rintro f S1 ⟨i1, i2⟩
      show Gv (fX10_passHours_b2 N _ T (nI n) (nI n) S1) _
      unfold fX10_passHours_b2
      rw [if_pos (nI_le (Nat.le_refl _) (by omega))]
      exact ⟨(0, S1), rfl, rfl, i1, i2⟩
    · rintro f k S1 hk ⟨i1, i2⟩
      refine Or.inr ?_
      obtain ⟨S2, r1, r2, r3⟩ := x_passHour (N := N) (we := wetZ Z (h + k)) hT Zk (hx.on hT i2) (trj_ok hq he k) he i1 hN
      refine ⟨S2, ⟨?_, i2.tr r3⟩, ?_⟩
      · rw [nI_1] at r2
        exact r2
      · show fX10_passHours_b2 N (fX10_passHours_h2 N f) T (nI n) (nI k) S1 = _
        unfold fX10_passHours_b2
        rw [if_neg (nI_ge hk (by omega))]
        unfold fX10_passHours_b7
        rw [i1.2.2.2.2.2.1, bnd_t (x_wetZ Zk (hx.on hT i2) (by omega))]
        dsimp only
        rw [bnd_t r1, nI_1]
  obtain ⟨⟨v, S'⟩, r1, r2, r3⟩ := main
  dsimp only at r2 r3
  subst r2
  exact ⟨S', r1, r3⟩
end
end
