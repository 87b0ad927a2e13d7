/-! the class's HOUR of all GUILDS; hours -/
noncomputable def xHo (nd i j : Nat) : Bool := xWk i j || (nd ≤ i && i ≤ nd + 4)
theorem xWk.ho {nd : Nat} {S S' : gS} (s : oSame xWk S S') : oSame (xHo nd) S S' := fun i j h => s i j (by
  unfold xHo at h
  rw [Bool.or_eq_false_iff] at h
  exact h.1)
theorem xHo_t {nd i j : Nat} (h1 : nd ≤ i) (h2 : i ≤ nd + 4) : xHo nd i j = true := by
  unfold xHo
  rw [decide_eq_true h1, decide_eq_true h2]
  simp
theorem xHo_f {nd i j : Nat} (h1 : ¬ (nd ≤ i ∧ i ≤ nd + 4)) (h2 : i ≠ 51 ∧ i ≠ 16 ∧ i ≠ 19 ∧ i ≠ 84 ∧ i ≠ 87) : xHo nd i j = false := by
  unfold xHo
  rw [xWk_f h2, Bool.false_or]
  cases h3 : (decide (nd ≤ i) && decide (i ≤ nd + 4)) with
  | false => rfl
  | true =>
    rw [Bool.and_eq_true, decide_eq_true_iff, decide_eq_true_iff] at h3
    exact absurd h3 h1
noncomputable def cntB (c : Nat → Bool) : Nat → Nat
  | 0 => 0
  | g + 1 => cntB c g + if c g = true then 1 else 0
theorem cntB_le {c : Nat → Bool} : ∀ n, cntB c n ≤ n := by
  intro n
  induction n with
  | zero => exact Nat.le_refl _
  | succ n ih =>
    show cntB c n + (if c n = true then 1 else 0) ≤ n + 1
    by_cases h : c n = true
    · rw [if_pos h]; omega
    · rw [if_neg h]; omega
noncomputable def mixQ (F qs : Nat → qT) (g : Nat) : Nat → qT := fun g' => if g' < g then F g' else qs g'
theorem mixQ_lt {F qs : Nat → qT} {g g' : Nat} (h : g' < g) : mixQ F qs g g' = F g' := if_pos h
theorem mixQ_ge {F qs : Nat → qT} {g g' : Nat} (h : ¬ g' < g) : mixQ F qs g g' = qs g' := if_neg h
section
variable {N nd h : Nat} {Z S : gS} {d we : Int32} {qs : Nat → qT}
theorem x_end {g : Nat} {e ho d' : Int32} {q : qT} (hnd : nd = 21 ∨ nd = 46) (hg : g < 6) (C : cSit nd Z S h d qs) (W : wkA S e d' ho q) : ∃ S', fX10_end N nd (nI g) S = some (0, S') ∧ cSit nd Z S' h d (upq qs g q) ∧ ∀ i j, ¬ (nd + 1 ≤ i ∧ i ≤ nd + 4 ∧ j = g) → S' i j = S i j := by
  obtain ⟨w0, w1, w2, w3, w4, w5, w7⟩ := W
  have hgc : (nI g).toNatClampNeg = g := nI_clamp (by omega)
  have hin : inb (nI g) 6 = true := inb_t hg (by decide)
  obtain ⟨A1, f1⟩ : ∃ z, z = sU S (nd + 1) g q.1 := ⟨_, rfl⟩
  obtain ⟨A2, f2⟩ : ∃ z, z = sU A1 (nd + 2) g q.2.1 := ⟨_, rfl⟩
  obtain ⟨A3, f3⟩ : ∃ z, z = sU A2 (nd + 3) g q.2.2.1 := ⟨_, rfl⟩
  obtain ⟨A4, f4⟩ : ∃ z, z = sU A3 (nd + 4) g q.2.2.2 := ⟨_, rfl⟩
  have s4 : ∀ i j, ¬ (nd + 1 ≤ i ∧ i ≤ nd + 4 ∧ j = g) → A4 i j = S i j := fun i j hij => by rw [f4, sU_n (by omega), f3, sU_n (by omega), f2, sU_n (by omega), f1, sU_n (by omega)]
  refine ⟨A4, ?_, C.up hnd s4 ?_ ?_ ?_ ?_, s4⟩
  · unfold fX10_end fX10_end_b0
    rw [if_neg (nI_pos (by omega))]
    unfold fX10_end_b4
    rw [if_pos (show nI g < 6 from nI_lt (b := 6) hg (by decide))]
    unfold fX10_end_b11
    dsimp only [lt]
    rw [hgc, chk_t hin, w1, ← f1, chk_t hin, show A1 51 2 = q.2.1 by rw [f1, sU_n (by omega)]; exact w2, ← f2, chk_t hin, show A2 51 3 = q.2.2.1 by rw [f2, sU_n (by omega), f1, sU_n (by omega)]; exact w3, ← f3, chk_t hin, show A3 51 4 = q.2.2.2 by rw [f3, sU_n (by omega), f2, sU_n (by omega), f1, sU_n (by omega)]; exact w4, ← f4]
  · rw [f4, sU_n (by omega), f3, sU_n (by omega), f2, sU_n (by omega), f1, sU_s]
  · rw [f4, sU_n (by omega), f3, sU_n (by omega), f2, sU_s]
  · rw [f4, sU_n (by omega), f3, sU_s]
  · rw [f4, sU_s]
theorem x_hourAll (hnd : nd = 21 ∨ nd = 46) (Zk : tOK Z) (C : cSit nd Z S h d qs) (K : qsOK Z (Z 5) qs) (hb : h < 2 ^ 30) (hN : 700 < N) : ∃ S', fX11_passHour N nd we S = some (nI (cntB (fun g => (hG Z (Z 5 g) d we (nI h) (qs g)).1) (tn1 Z)), S') ∧ cSit nd Z S' (h + 1) d (nxt Z h d we (Z 5) qs) ∧ oSame (xHo nd) S S' := by
  have z6 := Zk.2.1.2
  have main : Gv (fX11_passHour_h5 N N nd we 0 0 S) (fun r => r.1 = nI (cntB (fun g => (hG Z (Z 5 g) d we (nI h) (qs g)).1) (tn1 Z)) ∧ cSit nd Z r.2 (h + 1) d (nxt Z h d we (Z 5) qs) ∧ oSame (xHo nd) S r.2) := by
    refine loopG (A := gS) (fun f g S => fX11_passHour_h5 N f nd we (nI (cntB (fun g => (hG Z (Z 5 g) d we (nI h) (qs g)).1) g)) (nI g) S) (fun g S' => cSit nd Z S' h d (mixQ (nxt Z h d we (Z 5) qs) qs g) ∧ oSame (xHo nd) S S') _ (tn1 Z) ?_ ?_ (tn1 Z) 0 S N (by omega) ⟨?_, oSame.rf⟩ (by omega)
    · rintro f S1 ⟨i1, i2⟩
      have e5 : S1 (xtw S1) 5 = nI (tn1 Z) := (i1.1 0 5 (by omega) (by omega)).trans Zk.2.1.1
      have sn : ∀ i j, ¬ (i = nd ∧ j = 0) → sU S1 nd 0 (nI (h + 1)) i j = S1 i j := fun i j hij => sU_n hij
      refine ⟨(nI (cntB (fun g => (hG Z (Z 5 g) d we (nI h) (qs g)).1) (tn1 Z)), sU S1 nd 0 (nI (h + 1))), ?_, rfl, ?_, i2.up (xHo_t (by omega) (by omega))⟩
      · show fX11_passHour_b5 N _ nd we _ (nI (tn1 Z)) S1 = _
        unfold fX11_passHour_b5
        dsimp only [lt]
        rw [e5, if_pos (nI_le (Nat.le_refl _) (by omega))]
        unfold fX11_passHour_b65
        dsimp only [lt]
        rw [i1.2.1, nI_1]
      · obtain ⟨c1, c2, c3, c4⟩ := i1
        have hT : xtw (sU S1 nd 0 (nI (h + 1))) = xtw S1 := by
          unfold xtw
          rw [sn 0 7 (by omega)]
        refine ⟨?_, sU_s, by dsimp only; rw [sn nd 1 (by omega)]; exact c3, fun g hg => ?_⟩
        · dsimp only
          rw [hT]
          intro i j h1 h2
          have := xtw_cases (S := S1)
          rw [sn _ _ (by omega)]
          exact c1 i j h1 h2
        · dsimp only
          rw [sn _ _ (by omega), sn _ _ (by omega), sn _ _ (by omega), sn _ _ (by omega)]
          have := c4 g hg
          rw [mixQ_lt hg] at this
          exact this
    · rintro f g S1 hg ⟨i1, i2⟩
      refine Or.inr ?_
      have e5 : S1 (xtw S1) 5 = nI (tn1 Z) := (i1.1 0 5 (by omega) (by omega)).trans Zk.2.1.1
      obtain ⟨X1, b1, b2, b3⟩ := x_begin (N := N) hnd Zk i1 hg (by omega)
      rw [mixQ_ge (Nat.lt_irrefl g)] at b2
      obtain ⟨X2, p1, p2, p3⟩ := x_passHour (N := N) (we := we) xtw_cases Zk (i1.1.on xtw_cases b3) (K.1 g hg) (K.2.2 g hg) b2 hN
      obtain ⟨X3, q1, q2, q3⟩ := x_end (N := N) (g := g) hnd (by omega) (i1.on hnd (b3.tr p3)) p2
      refine ⟨X3, ⟨?_, ?_⟩, ?_⟩
      · obtain ⟨c1, c2, c3, c4⟩ := q2
        refine ⟨c1, c2, c3, fun g' hg' => ?_⟩
        have := c4 g' hg'
        by_cases hh : g' = g
        · subst hh
          rw [upq_s] at this
          rw [mixQ_lt (Nat.lt_succ_self _)]
          exact this
        · rw [upq_n hh] at this
          by_cases hl : g' < g
          · rw [mixQ_lt hl] at this
            rw [mixQ_lt (by omega)]
            exact this
          · rw [mixQ_ge hl] at this
            rw [mixQ_ge (by omega)]
            exact this
      · refine (i2.tr (xWk.ho (b3.tr p3))).tr (fun i j hij => q3 i j (fun q => ?_))
        rw [xHo_t (by omega) (by omega)] at hij
        cases hij
      · show fX11_passHour_b5 N (fX11_passHour_h5 N f) nd we _ (nI g) S1 = _
        unfold fX11_passHour_b5
        dsimp only [lt]
        rw [e5, if_neg (nI_ge hg (by omega))]
        unfold fX11_passHour_b17
        dsimp only [lt]
        rw [bnd_t b1]
        dsimp only
        rw [xWk.tw b3, bnd_t p1]
        dsimp only
        show _ = fX11_passHour_h5 N f nd we (nI (cntB (fun g => (hG Z (Z 5 g) d we (nI h) (qs g)).1) g + if (hG Z (Z 5 g) d we (nI h) (qs g)).1 = true then 1 else 0)) (nI (g + 1)) X3
        have hcl := cntB_le (c := fun g => (hG Z (Z 5 g) d we (nI h) (qs g)).1) g
        cases hh : (hG Z (Z 5 g) d we (nI h) (qs g)).1 with
        | false =>
          show fX11_passHour_b49 N (fX11_passHour_h5 N f) nd we (nI (cntB (fun g => (hG Z (Z 5 g) d we (nI h) (qs g)).1) g)) (nI g) X2 = fX11_passHour_h5 N f nd we (nI (cntB (fun g => (hG Z (Z 5 g) d we (nI h) (qs g)).1) g)) (nI (g + 1)) X3
          unfold fX11_passHour_b49
          rw [bnd_t q1, nI_1]
        | true =>
          show fX11_passHour_b46 N (fX11_passHour_h5 N f) nd we (nI (cntB (fun g => (hG Z (Z 5 g) d we (nI h) (qs g)).1) g)) (nI g) X2 = fX11_passHour_h5 N f nd we (nI (cntB (fun g => (hG Z (Z 5 g) d we (nI h) (qs g)).1) g + 1)) (nI (g + 1)) X3
          unfold fX11_passHour_b46 fX11_passHour_b49
          rw [bnd_t q1, nI_1, nI_1]
    · obtain ⟨c1, c2, c3, c4⟩ := C
      exact ⟨c1, c2, c3, fun g' hg' => by rw [mixQ_ge (by omega)]; exact c4 g' hg'⟩
  obtain ⟨⟨v, S'⟩, r1, r2, r3⟩ := main
  dsimp only at r2 r3
  subst r2
  exact ⟨S', r1, r3⟩
end
theorem xHo.nw {S S' : gS} (s : oSame (xHo 21) S S') : oSame xNw S S' := by
  intro i j h
  unfold xNw at h
  rw [Bool.or_eq_false_iff] at h
  have h2 := h.2
  simp only [Bool.and_eq_false_iff, decide_eq_false_iff_not] at h2
  refine s i j (xHo_f (by omega) ?_)
  have h1 := h.1
  refine ⟨?_, ?_, ?_, ?_, ?_⟩ <;> intro q <;> rw [q] at h1 <;> cases h1
theorem x_hours_h {Z S0 : gS} {h n : Nat} {d : Int32} {qs : Nat → qT} (Zk : tOK Z) (C : cSit 21 Z S0 h d qs) (K : qsOK Z (Z 5) qs) (hb : h + n < 2 ^ 30) (hn : n ≤ 60) : ∃ S', fX11_hours_h48 5000 5000 (nI n) 0 S0 = some (nI (h + n), S') ∧ cSit 21 Z S' (h + n) d (fun g => trj Z (Z 5 g) d (wetZ Z) h (qs g) n) ∧ oSame (xHo 21) S0 S' := by
  have main : Gv (fX11_hours_h48 5000 5000 (nI n) 0 S0) (fun r => r.1 = nI (h + n) ∧ cSit 21 Z r.2 (h + n) d (fun g => trj Z (Z 5 g) d (wetZ Z) h (qs g) n) ∧ oSame (xHo 21) S0 r.2) := by
    refine loopG (A := gS) (fun f k S => fX11_hours_h48 5000 f (nI n) (nI k) S) (fun k S' => cSit 21 Z S' (h + k) d (fun g => trj Z (Z 5 g) d (wetZ Z) h (qs g) k) ∧ oSame (xHo 21) S0 S') _ n ?_ ?_ n 0 S0 5000 (by omega) ⟨C, oSame.rf⟩ (by omega)
    · rintro f S1 ⟨i1, i2⟩
      refine ⟨(nI (h + n), S1), ?_, rfl, i1, i2⟩
      show fX11_hours_b48 5000 _ (nI n) (nI n) S1 = _
      unfold fX11_hours_b48
      rw [if_pos (nI_le (Nat.le_refl _) (by omega))]
      unfold fX11_hours_b76
      rw [i1.2.1]
    · rintro f k S1 hk ⟨i1, i2⟩
      refine Or.inr ?_
      obtain ⟨S2, r1, r2, r3⟩ := x_hourAll (N := 5000) (we := wetZ Z (h + k)) (Or.inl rfl) Zk i1 (K.tr (wf := wetZ Z) (h := h) (d := d) k) (by omega) (by decide)
      refine ⟨S2, ⟨r2, i2.tr r3⟩, ?_⟩
      show fX11_hours_b48 5000 (fX11_hours_h48 5000 f) (nI n) (nI k) S1 = _
      unfold fX11_hours_b48
      rw [if_neg (nI_ge hk (by omega))]
      unfold fX11_hours_b53
      dsimp only [lt]
      rw [i1.2.1, bnd_t (x_wetZ Zk i1.1 (by omega))]
      dsimp only
      rw [bnd_t r1, nI_1]
  obtain ⟨⟨v, S'⟩, r1, r2, r3⟩ := main
  dsimp only at r2 r3
  subst r2
  exact ⟨S', r1, r3⟩
theorem st_hours : Lw_hours JJ := by
  intro SX SM x1 hJ
  obtain ⟨S1, Z, h, qs, hS1, c0, hJ1, Zk, h9, C, M, K, w41, x0, x5⟩ := pre hJ
  have hX : fX11_hours 5000 x1 SX = if iv (wth x1 1 20) = 0 then fX11_hours_b30 5000 SX else fX11_hours_b18 5000 x1 SX := by
    unfold fX11_hours fX11_hours_b0
    rw [bnd_t x_isWithin]
  have hM : fX12_hours 5000 x1 SM = if iv (wth x1 1 20) = 0 then fX12_hours_b29 5000 S1 else fX12_hours_b17 5000 x1 S1 := by
    unfold fX12_hours fX12_hours_b0
    dsimp only [lt]
    rw [← hS1, bnd_t in_1_20]
  have ref : fX11_hours 5000 x1 SX = fX11_hours_b30 5000 SX → fX12_hours 5000 x1 SM = fX12_hours_b29 5000 S1 → StpV JJ (fun N => fX11_hours N x1 SX) (fun M => fX12_hours M x1 SM) := by
    intro a b
    refine ⟨5000, (-1, sU SX 32 1 (SX 32 1 + 1)), 5000, (-1, sU S1 17 1 (S1 17 1 + 1)), ?_, ?_, rfl, hJ1.refuse (k := 1) (by decide)⟩
    · show fX11_hours 5000 x1 SX = _
      rw [a]
      unfold fX11_hours_b30
      rw [bnd_t (show fX1_refuse 5000 20 1 SX = _ from x_refuse (k := 1) (by decide))]
    · show fX12_hours 5000 x1 SM = _
      rw [b]
      unfold fX12_hours_b29
      rw [bnd_t (show fX12_refuse 5000 1 S1 = _ from m_refuse (k := 1) (by decide))]
  cases h1 : wth x1 1 20 with
  | false =>
    refine ref ?_ ?_
    · rw [hX, h1]; rfl
    · rw [hM, h1]; rfl
  | true =>
  obtain ⟨c, c1, c2, rfl⟩ := wth_of (a := 1) (b := 20) (by decide) (by decide) h1
  have hX2 : fX11_hours 5000 (nI c) SX = if nI (h + c) ≤ 999 then fX11_hours_b39 5000 (nI c) SX else fX11_hours_b30 5000 SX := by
    rw [hX, h1]
    show fX11_hours_b18 5000 (nI c) SX = _
    unfold fX11_hours_b18
    rw [C.2.1, nI_add]
  have hM2 : fX12_hours 5000 (nI c) SM = if nI (h + c) ≤ 999 then fX12_hours_b35 5000 (nI c) S1 else fX12_hours_b29 5000 S1 := by
    rw [hM, h1]
    show fX12_hours_b17 5000 (nI c) S1 = _
    unfold fX12_hours_b17
    rw [M.2.2.1, nI_add]
  by_cases hl : nI (h + c) ≤ 999
  · have h99 : h + c ≤ 999 := (nI_leI (b := 999) (by omega) (by omega)).mp hl
    obtain ⟨X2, M2, k1, k2, kJ, kx, km⟩ := hJ1.keep
    have C2 := C.kp kx
    have M3 := M.kp km
    obtain ⟨X3, a1, a2, a3⟩ := x_hours_h (n := c) Zk C2 K (by omega) (by omega)
    obtain ⟨M4, b1, b2, b3⟩ := m_goOn (N := 5000) (n := c) Zk K.h (by omega) (by decide) (by omega) M3 (by rw [km 99 41 (by omega) (by omega)]; exact w41)
    refine ⟨5000, (nI (h + c), X3), 5000, (nI (h + c), M4), ?_, ?_, rfl, kJ.now (xHo.nw a3) b3.q Zk a2 b2 (K.tr c) h99⟩
    · show fX11_hours 5000 (nI c) SX = _
      rw [hX2, if_pos hl]
      unfold fX11_hours_b39
      rw [bnd_t k1]
      exact a1
    · show fX12_hours 5000 (nI c) SM = _
      rw [hM2, if_pos hl]
      unfold fX12_hours_b35
      rw [bnd_t k2]
      dsimp only
      rw [bnd_t b1]
      dsimp only
      rw [b2.2.2.1]
  · refine ref ?_ ?_
    · rw [hX2, if_neg hl]
    · rw [hM2, if_neg hl]
