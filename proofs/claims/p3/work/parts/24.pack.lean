/-! part 56.ahours -/
section
/-! the class's HOUR of all GUILDS; hours -/
noncomputable def xHo (nd i j : Nat) : Bool := xWk i j || (nd ≤ i && i ≤ nd + 4)
theorem xWk.ho {nd : Nat} {S S' : gS} (s : oSame xWk S S') : oSame (xHo nd) S S' := fun i j h => s i j (by
  unfold xHo at h
  rw [Bool.or_eq_false_iff] at h
  exact h.1)
theorem xHo_t {nd i j : Nat} (h1 : nd ≤ i) (h2 : i ≤ nd + 4) : xHo nd i j = true := by
  unfold xHo
  rw [decide_eq_true h1, decide_eq_true h2]
  simp
theorem xHo_f {nd i j : Nat} (h1 : ¬ (nd ≤ i ∧ i ≤ nd + 4)) (h2 : i ≠ 51 ∧ i ≠ 16 ∧ i ≠ 19 ∧ i ≠ 84 ∧ i ≠ 87) : xHo nd i j = false := by
  unfold xHo
  rw [xWk_f h2, Bool.false_or]
  cases h3 : (decide (nd ≤ i) && decide (i ≤ nd + 4)) with
  | false => rfl
  | true =>
    rw [Bool.and_eq_true, decide_eq_true_iff, decide_eq_true_iff] at h3
    exact absurd h3 h1
noncomputable def cntB (c : Nat → Bool) : Nat → Nat
  | 0 => 0
  | g + 1 => cntB c g + if c g = true then 1 else 0
theorem cntB_le {c : Nat → Bool} : ∀ n, cntB c n ≤ n := by
  intro n
  induction n with
  | zero => exact Nat.le_refl _
  | succ n ih =>
    show cntB c n + (if c n = true then 1 else 0) ≤ n + 1
    by_cases h : c n = true
    · rw [if_pos h]; omega
    · rw [if_neg h]; omega
noncomputable def mixQ (F qs : Nat → qT) (g : Nat) : Nat → qT := fun g' => if g' < g then F g' else qs g'
theorem mixQ_lt {F qs : Nat → qT} {g g' : Nat} (h : g' < g) : mixQ F qs g g' = F g' := if_pos h
theorem mixQ_ge {F qs : Nat → qT} {g g' : Nat} (h : ¬ g' < g) : mixQ F qs g g' = qs g' := if_neg h
section
variable {N nd h : Nat} {Z S : gS} {d we : Int32} {qs : Nat → qT}
theorem x_end {g : Nat} {e ho d' : Int32} {q : qT} (hnd : nd = 21 ∨ nd = 46) (hg : g < 6) (C : cSit nd Z S h d qs) (W : wkA S e d' ho q) : ∃ S', fX10_end N nd (nI g) S = some (0, S') ∧ cSit nd Z S' h d (upq qs g q) ∧ ∀ i j, ¬ (nd + 1 ≤ i ∧ i ≤ nd + 4 ∧ j = g) → S' i j = S i j := by
  obtain ⟨w0, w1, w2, w3, w4, w5, w7⟩ := W
  have hgc : (nI g).toNatClampNeg = g := nI_clamp (by omega)
  have hin : inb (nI g) 6 = true := inb_t hg (by decide)
  obtain ⟨A1, f1⟩ : ∃ z, z = sU S (nd + 1) g q.1 := ⟨_, rfl⟩
  obtain ⟨A2, f2⟩ : ∃ z, z = sU A1 (nd + 2) g q.2.1 := ⟨_, rfl⟩
  obtain ⟨A3, f3⟩ : ∃ z, z = sU A2 (nd + 3) g q.2.2.1 := ⟨_, rfl⟩
  obtain ⟨A4, f4⟩ : ∃ z, z = sU A3 (nd + 4) g q.2.2.2 := ⟨_, rfl⟩
  have s4 : ∀ i j, ¬ (nd + 1 ≤ i ∧ i ≤ nd + 4 ∧ j = g) → A4 i j = S i j := fun i j hij => by rw [f4, sU_n (by omega), f3, sU_n (by omega), f2, sU_n (by omega), f1, sU_n (by omega)]
  refine ⟨A4, ?_, C.up hnd s4 ?_ ?_ ?_ ?_, s4⟩
  · unfold fX10_end fX10_end_b0
    rw [if_neg (nI_pos (by omega))]
    unfold fX10_end_b4
    rw [if_pos (show nI g < 6 from nI_lt (b := 6) hg (by decide))]
    unfold fX10_end_b11
    dsimp only [lt]
    rw [hgc, chk_t hin, w1, ← f1, chk_t hin, show A1 51 2 = q.2.1 by rw [f1, sU_n (by omega)]; exact w2, ← f2, chk_t hin, show A2 51 3 = q.2.2.1 by rw [f2, sU_n (by omega), f1, sU_n (by omega)]; exact w3, ← f3, chk_t hin, show A3 51 4 = q.2.2.2 by rw [f3, sU_n (by omega), f2, sU_n (by omega), f1, sU_n (by omega)]; exact w4, ← f4]
  · rw [f4, sU_n (by omega), f3, sU_n (by omega), f2, sU_n (by omega), f1, sU_s]
  · rw [f4, sU_n (by omega), f3, sU_n (by omega), f2, sU_s]
  · rw [f4, sU_n (by omega), f3, sU_s]
  · rw [f4, sU_s]
theorem x_hourAll (hnd : nd = 21 ∨ nd = 46) (Zk : tOK Z) (C : cSit nd Z S h d qs) (K : qsOK Z (Z 5) qs) (hb : h < 2 ^ 30) (hN : 700 < N) : ∃ S', fX11_passHour N nd we S = some (nI (cntB (fun g => (hG Z (Z 5 g) d we (nI h) (qs g)).1) (tn1 Z)), S') ∧ cSit nd Z S' (h + 1) d (nxt Z h d we (Z 5) qs) ∧ oSame (xHo nd) S S' := by
  have z6 := Zk.2.1.2
  have main : Gv (fX11_passHour_h5 N N nd we 0 0 S) (fun r => r.1 = nI (cntB (fun g => (hG Z (Z 5 g) d we (nI h) (qs g)).1) (tn1 Z)) ∧ cSit nd Z r.2 (h + 1) d (nxt Z h d we (Z 5) qs) ∧ oSame (xHo nd) S r.2) := by
    refine loopG (A := gS) (fun f g S => fX11_passHour_h5 N f nd we (nI (cntB (fun g => (hG Z (Z 5 g) d we (nI h) (qs g)).1) g)) (nI g) S) (fun g S' => cSit nd Z S' h d (mixQ (nxt Z h d we (Z 5) qs) qs g) ∧ oSame (xHo nd) S S') _ (tn1 Z) ?_ ?_ (tn1 Z) 0 S N (by omega) ⟨?_, oSame.rf⟩ (by omega)
    · rintro f S1 ⟨i1, i2⟩
      have e5 : S1 (xtw S1) 5 = nI (tn1 Z) := (i1.1 0 5 (by omega) (by omega)).trans Zk.2.1.1
      have sn : ∀ i j, ¬ (i = nd ∧ j = 0) → sU S1 nd 0 (nI (h + 1)) i j = S1 i j := fun i j hij => sU_n hij
      refine ⟨(nI (cntB (fun g => (hG Z (Z 5 g) d we (nI h) (qs g)).1) (tn1 Z)), sU S1 nd 0 (nI (h + 1))), ?_, rfl, ?_, i2.up (xHo_t (by omega) (by omega))⟩
      · show fX11_passHour_b5 N _ nd we _ (nI (tn1 Z)) S1 = _
        unfold fX11_passHour_b5
        dsimp only [lt]
        rw [e5, if_pos (nI_le (Nat.le_refl _) (by omega))]
        unfold fX11_passHour_b65
        dsimp only [lt]
        rw [i1.2.1, nI_1]
      · obtain ⟨c1, c2, c3, c4⟩ := i1
        have hT : xtw (sU S1 nd 0 (nI (h + 1))) = xtw S1 := by
          unfold xtw
          rw [sn 0 7 (by omega)]
        refine ⟨?_, sU_s, by dsimp only; rw [sn nd 1 (by omega)]; exact c3, fun g hg => ?_⟩
        · dsimp only
          rw [hT]
          intro i j h1 h2
          have := xtw_cases (S := S1)
          rw [sn _ _ (by omega)]
          exact c1 i j h1 h2
        · dsimp only
          rw [sn _ _ (by omega), sn _ _ (by omega), sn _ _ (by omega), sn _ _ (by omega)]
          have := c4 g hg
          rw [mixQ_lt hg] at this
          exact this
    · rintro f g S1 hg ⟨i1, i2⟩
      refine Or.inr ?_
      have e5 : S1 (xtw S1) 5 = nI (tn1 Z) := (i1.1 0 5 (by omega) (by omega)).trans Zk.2.1.1
      obtain ⟨X1, b1, b2, b3⟩ := x_begin (N := N) hnd Zk i1 hg (by omega)
      rw [mixQ_ge (Nat.lt_irrefl g)] at b2
      obtain ⟨X2, p1, p2, p3⟩ := x_passHour (N := N) (we := we) xtw_cases Zk (i1.1.on xtw_cases b3) (K.1 g hg) (K.2.2 g hg) b2 hN
      obtain ⟨X3, q1, q2, q3⟩ := x_end (N := N) (g := g) hnd (by omega) (i1.on hnd (b3.tr p3)) p2
      refine ⟨X3, ⟨?_, ?_⟩, ?_⟩
      · obtain ⟨c1, c2, c3, c4⟩ := q2
        refine ⟨c1, c2, c3, fun g' hg' => ?_⟩
        have := c4 g' hg'
        by_cases hh : g' = g
        · subst hh
          rw [upq_s] at this
          rw [mixQ_lt (Nat.lt_succ_self _)]
          exact this
        · rw [upq_n hh] at this
          by_cases hl : g' < g
          · rw [mixQ_lt hl] at this
            rw [mixQ_lt (by omega)]
            exact this
          · rw [mixQ_ge hl] at this
            rw [mixQ_ge (by omega)]
            exact this
      · refine (i2.tr (xWk.ho (b3.tr p3))).tr (fun i j hij => q3 i j (fun q => ?_))
        rw [xHo_t (by omega) (by omega)] at hij
        cases hij
      · show fX11_passHour_b5 N (fX11_passHour_h5 N f) nd we _ (nI g) S1 = _
        unfold fX11_passHour_b5
        dsimp only [lt]
        rw [e5, if_neg (nI_ge hg (by omega))]
        unfold fX11_passHour_b17
        dsimp only [lt]
        rw [bnd_t b1]
        dsimp only
        rw [xWk.tw b3, bnd_t p1]
        dsimp only
        show _ = fX11_passHour_h5 N f nd we (nI (cntB (fun g => (hG Z (Z 5 g) d we (nI h) (qs g)).1) g + if (hG Z (Z 5 g) d we (nI h) (qs g)).1 = true then 1 else 0)) (nI (g + 1)) X3
        have hcl := cntB_le (c := fun g => (hG Z (Z 5 g) d we (nI h) (qs g)).1) g
        cases hh : (hG Z (Z 5 g) d we (nI h) (qs g)).1 with
        | false =>
          show fX11_passHour_b49 N (fX11_passHour_h5 N f) nd we (nI (cntB (fun g => (hG Z (Z 5 g) d we (nI h) (qs g)).1) g)) (nI g) X2 = fX11_passHour_h5 N f nd we (nI (cntB (fun g => (hG Z (Z 5 g) d we (nI h) (qs g)).1) g)) (nI (g + 1)) X3
          unfold fX11_passHour_b49
          rw [bnd_t q1, nI_1]
        | true =>
          show fX11_passHour_b46 N (fX11_passHour_h5 N f) nd we (nI (cntB (fun g => (hG Z (Z 5 g) d we (nI h) (qs g)).1) g)) (nI g) X2 = fX11_passHour_h5 N f nd we (nI (cntB (fun g => (hG Z (Z 5 g) d we (nI h) (qs g)).1) g + 1)) (nI (g + 1)) X3
          unfold fX11_passHour_b46 fX11_passHour_b49
          rw [bnd_t q1, nI_1, nI_1]
    · obtain ⟨c1, c2, c3, c4⟩ := C
      exact ⟨c1, c2, c3, fun g' hg' => by rw [mixQ_ge (by omega)]; exact c4 g' hg'⟩
  obtain ⟨⟨v, S'⟩, r1, r2, r3⟩ := main
  dsimp only at r2 r3
  subst r2
  exact ⟨S', r1, r3⟩
end
theorem xHo.nw {S S' : gS} (s : oSame (xHo 21) S S') : oSame xNw S S' := by
  intro i j h
  unfold xNw at h
  rw [Bool.or_eq_false_iff] at h
  have h2 := h.2
  simp only [Bool.and_eq_false_iff, decide_eq_false_iff_not] at h2
  refine s i j (xHo_f (by omega) ?_)
  have h1 := h.1
  refine ⟨?_, ?_, ?_, ?_, ?_⟩ <;> intro q <;> rw [q] at h1 <;> cases h1
theorem x_hours_h {Z S0 : gS} {h n : Nat} {d : Int32} {qs : Nat → qT} (Zk : tOK Z) (C : cSit 21 Z S0 h d qs) (K : qsOK Z (Z 5) qs) (hb : h + n < 2 ^ 30) (hn : n ≤ 60) : ∃ S', fX11_hours_h48 5000 5000 (nI n) 0 S0 = some (nI (h + n), S') ∧ cSit 21 Z S' (h + n) d (fun g => trj Z (Z 5 g) d (wetZ Z) h (qs g) n) ∧ oSame (xHo 21) S0 S' := by
  have main : Gv (fX11_hours_h48 5000 5000 (nI n) 0 S0) (fun r => r.1 = nI (h + n) ∧ cSit 21 Z r.2 (h + n) d (fun g => trj Z (Z 5 g) d (wetZ Z) h (qs g) n) ∧ oSame (xHo 21) S0 r.2) := by
    refine loopG (A := gS) (fun f k S => fX11_hours_h48 5000 f (nI n) (nI k) S) (fun k S' => cSit 21 Z S' (h + k) d (fun g => trj Z (Z 5 g) d (wetZ Z) h (qs g) k) ∧ oSame (xHo 21) S0 S') _ n ?_ ?_ n 0 S0 5000 (by omega) ⟨C, oSame.rf⟩ (by omega)
    · rintro f S1 ⟨i1, i2⟩
      refine ⟨(nI (h + n), S1), ?_, rfl, i1, i2⟩
      show fX11_hours_b48 5000 _ (nI n) (nI n) S1 = _
      unfold fX11_hours_b48
      rw [if_pos (nI_le (Nat.le_refl _) (by omega))]
      unfold fX11_hours_b76
      rw [i1.2.1]
    · rintro f k S1 hk ⟨i1, i2⟩
      refine Or.inr ?_
      obtain ⟨S2, r1, r2, r3⟩ := x_hourAll (N := 5000) (we := wetZ Z (h + k)) (Or.inl rfl) Zk i1 (K.tr (wf := wetZ Z) (h := h) (d := d) k) (by omega) (by decide)
      refine ⟨S2, ⟨r2, i2.tr r3⟩, ?_⟩
      show fX11_hours_b48 5000 (fX11_hours_h48 5000 f) (nI n) (nI k) S1 = _
      unfold fX11_hours_b48
      rw [if_neg (nI_ge hk (by omega))]
      unfold fX11_hours_b53
      dsimp only [lt]
      rw [i1.2.1, bnd_t (x_wetZ Zk i1.1 (by omega))]
      dsimp only
      rw [bnd_t r1, nI_1]
  obtain ⟨⟨v, S'⟩, r1, r2, r3⟩ := main
  dsimp only at r2 r3
  subst r2
  exact ⟨S', r1, r3⟩
theorem st_hours : Lw_hours JJ := by
  intro SX SM x1 hJ
  obtain ⟨S1, Z, h, qs, hS1, c0, hJ1, Zk, h9, C, M, K, w41, x0, x5⟩ := pre hJ
  have hX : fX11_hours 5000 x1 SX = if iv (wth x1 1 20) = 0 then fX11_hours_b30 5000 SX else fX11_hours_b18 5000 x1 SX := by
    unfold fX11_hours fX11_hours_b0
    rw [bnd_t x_isWithin]
  have hM : fX12_hours 5000 x1 SM = if iv (wth x1 1 20) = 0 then fX12_hours_b29 5000 S1 else fX12_hours_b17 5000 x1 S1 := by
    unfold fX12_hours fX12_hours_b0
    dsimp only [lt]
    rw [← hS1, bnd_t in_1_20]
  have ref : fX11_hours 5000 x1 SX = fX11_hours_b30 5000 SX → fX12_hours 5000 x1 SM = fX12_hours_b29 5000 S1 → StpV JJ (fun N => fX11_hours N x1 SX) (fun M => fX12_hours M x1 SM) := by
    intro a b
    refine ⟨5000, (-1, sU SX 32 1 (SX 32 1 + 1)), 5000, (-1, sU S1 17 1 (S1 17 1 + 1)), ?_, ?_, rfl, hJ1.refuse (k := 1) (by decide)⟩
    · show fX11_hours 5000 x1 SX = _
      rw [a]
      unfold fX11_hours_b30
      rw [bnd_t (show fX1_refuse 5000 20 1 SX = _ from x_refuse (k := 1) (by decide))]
    · show fX12_hours 5000 x1 SM = _
      rw [b]
      unfold fX12_hours_b29
      rw [bnd_t (show fX12_refuse 5000 1 S1 = _ from m_refuse (k := 1) (by decide))]
  cases h1 : wth x1 1 20 with
  | false =>
    refine ref ?_ ?_
    · rw [hX, h1]; rfl
    · rw [hM, h1]; rfl
  | true =>
  obtain ⟨c, c1, c2, rfl⟩ := wth_of (a := 1) (b := 20) (by decide) (by decide) h1
  have hX2 : fX11_hours 5000 (nI c) SX = if nI (h + c) ≤ 999 then fX11_hours_b39 5000 (nI c) SX else fX11_hours_b30 5000 SX := by
    rw [hX, h1]
    show fX11_hours_b18 5000 (nI c) SX = _
    unfold fX11_hours_b18
    rw [C.2.1, nI_add]
  have hM2 : fX12_hours 5000 (nI c) SM = if nI (h + c) ≤ 999 then fX12_hours_b35 5000 (nI c) S1 else fX12_hours_b29 5000 S1 := by
    rw [hM, h1]
    show fX12_hours_b17 5000 (nI c) S1 = _
    unfold fX12_hours_b17
    rw [M.2.2.1, nI_add]
  by_cases hl : nI (h + c) ≤ 999
  · have h99 : h + c ≤ 999 := (nI_leI (b := 999) (by omega) (by omega)).mp hl
    obtain ⟨X2, M2, k1, k2, kJ, kx, km⟩ := hJ1.keep
    have C2 := C.kp kx
    have M3 := M.kp km
    obtain ⟨X3, a1, a2, a3⟩ := x_hours_h (n := c) Zk C2 K (by omega) (by omega)
    obtain ⟨M4, b1, b2, b3⟩ := m_goOn (N := 5000) (n := c) Zk K.h (by omega) (by decide) (by omega) M3 (by rw [km 99 41 (by omega) (by omega)]; exact w41)
    refine ⟨5000, (nI (h + c), X3), 5000, (nI (h + c), M4), ?_, ?_, rfl, kJ.now (xHo.nw a3) b3.q Zk a2 b2 (K.tr c) h99⟩
    · show fX11_hours 5000 (nI c) SX = _
      rw [hX2, if_pos hl]
      unfold fX11_hours_b39
      rw [bnd_t k1]
      exact a1
    · show fX12_hours 5000 (nI c) SM = _
      rw [hM2, if_pos hl]
      unfold fX12_hours_b35
      rw [bnd_t k2]
      dsimp only
      rw [bnd_t b1]
      dsimp only
      rw [b2.2.2.1]
  · refine ref ?_ ?_
    · rw [hX2, if_neg hl]
    · rw [hM2, if_neg hl]
end

/-! part 57.aimage -/
section
/-! undo, see, image, restore -/
theorem jBook.cp {n0 n1 bs bs' past sg si sn stt past' sg' si' sn' stt' : Nat} {mst mst' : Nat → Nat → Int32} {ma ms ma' ms' : Int32} {SX SM SX' SM' : gS} (h : jBook n0 n1 bs SX mst ma ms past sg si sn stt SM) (h6 : n1 ≤ 6)
    (xs : ∀ c g, (c = 0 → g ≤ 1) → c ≤ 4 → g < 6 → SX' (bs' + 1 + c) g = SX (bs + 1 + c) g) (xa : SX' (bs' + 6) 1 = SX (bs + 6) 1) (xp : ∀ j, j < 1040 → SX' (bs' + 7) j = SX (bs + 7) j) (xq : SX' (bs' + 8) 3 = SX (bs + 8) 3) (xr : ∀ i, i < 8 → SX' (bs' + 9) i = SX (bs + 9) i ∧ SX' (bs' + 10) i = SX (bs + 10) i ∧ SX' (bs' + 11) i = SX (bs + 11) i) (xt : ∀ i, i < 3 → SX' (bs' + 12) i = SX (bs + 12) i)
    (mm : ∀ c g, (c = 0 → g ≤ 1) → c ≤ 4 → g < 6 → mst' c g = mst c g) (ea : ma' = ma) (es : ms' = ms) (mp : ∀ j, j < 1040 → SM' past' j = SM past j) (mr : ∀ i, i < 8 → SM' sg' i = SM sg i ∧ SM' si' i = SM si i ∧ SM' sn' i = SM sn i) (mt : ∀ i, i < 3 → SM' stt' i = SM stt i) : jBook n0 n1 bs' SX' mst' ma' ms' past' sg' si' sn' stt' SM' := by
  obtain ⟨s, ⟨a, a1, a2, a3, a4⟩, ⟨q, q1, q2, q3, q4⟩, t⟩ := h
  subst ea es
  refine ⟨s.on6 h6 (fun c g h1 h2 h3 => xs c g h1 h2 h3) mm, ⟨a, a1, xa.trans a2, a3, fun i hi => (a4 i hi).on6 h6 (fun c g h1 h2 h3 => ?_) (fun c g h1 h2 h3 => ?_)⟩, ⟨q, q1, xq.trans q2, q3, fun i hi => ?_⟩, fun i hi => ?_⟩
  · unfold xAc
    by_cases h0 : c = 0
    · rw [if_pos h0, if_pos h0, xp _ (by have := h1 h0; omega)]
    · rw [if_neg h0, if_neg h0, xp _ (by omega)]
  · unfold mAc
    by_cases h0 : c = 0
    · rw [if_pos h0, if_pos h0, mp _ (by have := h1 h0; omega)]
    · rw [if_neg h0, if_neg h0, mp _ (by omega)]
  · obtain ⟨r1, r2, r3⟩ := xr i (by omega)
    obtain ⟨p1, p2, p3⟩ := mr i (by omega)
    rw [r1, r2, r3, p1, p2, p3]
    exact q4 i hi
  · rw [xt i hi, mt i hi]
    exact t i hi
theorem m_copyTo {N k0 k1 n : Nat} {S : gS} (hk : k0 ≠ k1) (h0 : mN k0 = n) (h1 : mN k1 = n) (hn : n < N) (hN : N < 2 ^ 31) : ∃ S', fX12_copyTo N k0 k1 S = some (0, S') ∧ (∀ i j, i ≠ k0 → S' i j = S i j) ∧ ∀ j, j < n → S' k0 j = S k1 j := by
  have main : Gv (fX12_copyTo_h2 N N k0 k1 0 S) (fun r => r.1 = 0 ∧ (∀ i j, i ≠ k0 → r.2 i j = S i j) ∧ ∀ j, j < n → r.2 k0 j = S k1 j) := by
    refine loopG (A := gS) (fun f k S => fX12_copyTo_h2 N f k0 k1 (nI k) S) (fun k S' => (∀ i j, i ≠ k0 → S' i j = S i j) ∧ ∀ j, j < k → S' k0 j = S k1 j) _ n ?_ ?_ n 0 S N (by omega) ⟨fun _ _ _ => rfl, fun j hj => by omega⟩ (by omega)
    · rintro f S1 ⟨i1, i2⟩
      refine ⟨(0, S1), ?_, rfl, i1, i2⟩
      show fX12_copyTo_b2 N _ k0 k1 (nI n) S1 = _
      unfold fX12_copyTo_b2
      rw [h0, if_pos (show Int32.ofNat n ≤ nI n from nI_le (Nat.le_refl _) (by omega))]
      rfl
    · rintro f k S1 hk1 ⟨i1, i2⟩
      refine Or.inr ⟨sU S1 k0 k (S k1 k), ⟨fun i j hi => by rw [sU_n (by omega)]; exact i1 i j hi, fun j hj => ?_⟩, ?_⟩
      · by_cases hh : j = k
        · rw [hh, sU_s]
        · rw [sU_n (by omega)]; exact i2 j (by omega)
      · show fX12_copyTo_b2 N (fX12_copyTo_h2 N f) k0 k1 (nI k) S1 = _
        unfold fX12_copyTo_b2
        rw [h0, if_neg (show ¬ Int32.ofNat n ≤ nI k from nI_ge hk1 (by omega))]
        unfold fX12_copyTo_b8
        rw [h0, h1, chk_t (inb_t hk1 (by omega)), chk_t (inb_t hk1 (by omega)), nI_clamp (by omega), i1 k1 k (by omega), nI_1]
        rfl
  obtain ⟨⟨v, S'⟩, r1, r2, r3⟩ := main
  dsimp only at r2 r3
  subst r2
  exact ⟨S', r1, r3⟩
section
variable {N k0 k1 : Nat} {S : gS}
/-- the class's states copied -/
theorem x_copy7 (hk : k0 + 4 < k1 ∨ k1 + 4 < k0) (hN : 700 < N) : ∃ S', fX7_copy N k0 k1 S = some (0, S') ∧ (∀ i j, ¬ (k0 ≤ i ∧ i ≤ k0 + 4) → S' i j = S i j) ∧ (∀ j, j ≤ 1 → S' k0 j = S k1 j) ∧ ∀ g, g < 6 → S' (k0 + 1) g = S (k1 + 1) g ∧ S' (k0 + 2) g = S (k1 + 2) g ∧ S' (k0 + 3) g = S (k1 + 3) g ∧ S' (k0 + 4) g = S (k1 + 4) g := by
  obtain ⟨S0, e0⟩ : ∃ z, z = sU (sU S k0 0 (S k1 0)) k0 1 (S k1 1) := ⟨_, rfl⟩
  have main : Gv (fX7_copy_h18 N N k0 k1 0 S0) (fun r => r.1 = 0 ∧ (∀ i j, ¬ (k0 ≤ i ∧ i ≤ k0 + 4) → r.2 i j = S i j) ∧ (∀ j, j ≤ 1 → r.2 k0 j = S k1 j) ∧ ∀ g, g < 6 → r.2 (k0 + 1) g = S (k1 + 1) g ∧ r.2 (k0 + 2) g = S (k1 + 2) g ∧ r.2 (k0 + 3) g = S (k1 + 3) g ∧ r.2 (k0 + 4) g = S (k1 + 4) g) := by
    refine loopG (A := gS) (fun f g S => fX7_copy_h18 N f k0 k1 (nI g) S) (fun g S' => (∀ i j, ¬ (k0 ≤ i ∧ i ≤ k0 + 4) → S' i j = S i j) ∧ (∀ j, j ≤ 1 → S' k0 j = S k1 j) ∧ ∀ g', g' < g → S' (k0 + 1) g' = S (k1 + 1) g' ∧ S' (k0 + 2) g' = S (k1 + 2) g' ∧ S' (k0 + 3) g' = S (k1 + 3) g' ∧ S' (k0 + 4) g' = S (k1 + 4) g') _ 6 ?_ ?_ 6 0 S0 N (by omega) ⟨fun i j hij => by rw [e0, sU_n (by omega), sU_n (by omega)], fun j hj => ?_, fun g' hg' => by omega⟩ (by omega)
    · rintro f S1 ⟨i1, i2, i3⟩
      exact ⟨(0, S1), rfl, rfl, i1, i2, i3⟩
    · rintro f g S1 hg ⟨i1, i2, i3⟩
      refine Or.inr ?_
      have hgc : (nI g).toNatClampNeg = g := nI_clamp (by omega)
      have hin : inb (nI g) 6 = true := inb_t hg (by decide)
      obtain ⟨A1, f1⟩ : ∃ z, z = sU S1 (k0 + 1) g (S (k1 + 1) g) := ⟨_, rfl⟩
      obtain ⟨A2, f2⟩ : ∃ z, z = sU A1 (k0 + 2) g (S (k1 + 2) g) := ⟨_, rfl⟩
      obtain ⟨A3, f3⟩ : ∃ z, z = sU A2 (k0 + 3) g (S (k1 + 3) g) := ⟨_, rfl⟩
      obtain ⟨A4, f4⟩ : ∃ z, z = sU A3 (k0 + 4) g (S (k1 + 4) g) := ⟨_, rfl⟩
      have s4 : ∀ i j, ¬ (k0 + 1 ≤ i ∧ i ≤ k0 + 4 ∧ j = g) → A4 i j = S1 i j := fun i j hij => by rw [f4, sU_n (by omega), f3, sU_n (by omega), f2, sU_n (by omega), f1, sU_n (by omega)]
      refine ⟨A4, ⟨fun i j hij => by rw [s4 i j (by omega)]; exact i1 i j hij, fun j hj => by rw [s4 k0 j (by omega)]; exact i2 j hj, fun g' hg' => ?_⟩, ?_⟩
      · by_cases hh : g' = g
        · subst hh
          refine ⟨?_, ?_, ?_, ?_⟩
          · rw [f4, sU_n (by omega), f3, sU_n (by omega), f2, sU_n (by omega), f1, sU_s]
          · rw [f4, sU_n (by omega), f3, sU_n (by omega), f2, sU_s]
          · rw [f4, sU_n (by omega), f3, sU_s]
          · rw [f4, sU_s]
        · rw [s4 (k0 + 1) g' (by omega), s4 (k0 + 2) g' (by omega), s4 (k0 + 3) g' (by omega), s4 (k0 + 4) g' (by omega)]
          exact i3 g' (by omega)
      · show fX7_copy_b18 N (fX7_copy_h18 N f) k0 k1 (nI g) S1 = _
        unfold fX7_copy_b18
        rw [if_neg (show ¬ (6 : Int32) ≤ nI g from nI_ge (b := 6) hg (by decide))]
        unfold fX7_copy_b24
        dsimp only [lt]
        rw [hgc, chk_t hin, chk_t hin, i1 (k1 + 1) g (by omega), ← f1, chk_t hin, chk_t hin, show A1 (k1 + 2) g = S (k1 + 2) g by rw [f1, sU_n (by omega)]; exact i1 _ _ (by omega), ← f2, chk_t hin, chk_t hin, show A2 (k1 + 3) g = S (k1 + 3) g by rw [f2, sU_n (by omega), f1, sU_n (by omega)]; exact i1 _ _ (by omega), ← f3, chk_t hin, chk_t hin, show A3 (k1 + 4) g = S (k1 + 4) g by rw [f3, sU_n (by omega), f2, sU_n (by omega), f1, sU_n (by omega)]; exact i1 _ _ (by omega), ← f4, nI_1]
    · rcases (show j = 0 ∨ j = 1 by omega) with rfl | rfl
      · rw [e0, sU_n (by omega), sU_s]
      · rw [e0, sU_s]
  obtain ⟨⟨v, S'⟩, r1, r2, r3⟩ := main
  dsimp only at r2 r3
  subst r2
  refine ⟨S', ?_, r3⟩
  unfold fX7_copy fX7_copy_b0
  dsimp only [lt]
  rw [sU_n (i := k1) (by omega), ← e0]
  exact r1
theorem x_copy5 (hk : k0 + 3 < k1 ∨ k1 + 3 < k0) (hN : 700 < N) : ∃ S', fX5_copy N k0 k1 S = some (0, S') ∧ (∀ i j, ¬ (k0 ≤ i ∧ i ≤ k0 + 3) → S' i j = S i j) ∧ S' k0 3 = S k1 3 ∧ ∀ g, g < 8 → S' (k0 + 1) g = S (k1 + 1) g ∧ S' (k0 + 2) g = S (k1 + 2) g ∧ S' (k0 + 3) g = S (k1 + 3) g := by
  obtain ⟨S0, e0⟩ : ∃ z, z = sU S k0 3 (S k1 3) := ⟨_, rfl⟩
  have main : Gv (fX5_copy_h10 N N k0 k1 0 S0) (fun r => r.1 = 0 ∧ (∀ i j, ¬ (k0 ≤ i ∧ i ≤ k0 + 3) → r.2 i j = S i j) ∧ r.2 k0 3 = S k1 3 ∧ ∀ g, g < 8 → r.2 (k0 + 1) g = S (k1 + 1) g ∧ r.2 (k0 + 2) g = S (k1 + 2) g ∧ r.2 (k0 + 3) g = S (k1 + 3) g) := by
    refine loopG (A := gS) (fun f g S => fX5_copy_h10 N f k0 k1 (nI g) S) (fun g S' => (∀ i j, ¬ (k0 ≤ i ∧ i ≤ k0 + 3) → S' i j = S i j) ∧ S' k0 3 = S k1 3 ∧ ∀ g', g' < g → S' (k0 + 1) g' = S (k1 + 1) g' ∧ S' (k0 + 2) g' = S (k1 + 2) g' ∧ S' (k0 + 3) g' = S (k1 + 3) g') _ 8 ?_ ?_ 8 0 S0 N (by omega) ⟨fun i j hij => by rw [e0, sU_n (by omega)], by rw [e0, sU_s], fun g' hg' => by omega⟩ (by omega)
    · rintro f S1 ⟨i1, i2, i3⟩
      exact ⟨(0, S1), rfl, rfl, i1, i2, i3⟩
    · rintro f g S1 hg ⟨i1, i2, i3⟩
      refine Or.inr ?_
      have hgc : (nI g).toNatClampNeg = g := nI_clamp (by omega)
      have hin : inb (nI g) 8 = true := inb_t hg (by decide)
      obtain ⟨A1, f1⟩ : ∃ z, z = sU S1 (k0 + 1) g (S (k1 + 1) g) := ⟨_, rfl⟩
      obtain ⟨A2, f2⟩ : ∃ z, z = sU A1 (k0 + 2) g (S (k1 + 2) g) := ⟨_, rfl⟩
      obtain ⟨A3, f3⟩ : ∃ z, z = sU A2 (k0 + 3) g (S (k1 + 3) g) := ⟨_, rfl⟩
      have s4 : ∀ i j, ¬ (k0 + 1 ≤ i ∧ i ≤ k0 + 3 ∧ j = g) → A3 i j = S1 i j := fun i j hij => by rw [f3, sU_n (by omega), f2, sU_n (by omega), f1, sU_n (by omega)]
      refine ⟨A3, ⟨fun i j hij => by rw [s4 i j (by omega)]; exact i1 i j hij, by rw [s4 k0 3 (by omega)]; exact i2, fun g' hg' => ?_⟩, ?_⟩
      · by_cases hh : g' = g
        · subst hh
          refine ⟨?_, ?_, ?_⟩
          · rw [f3, sU_n (by omega), f2, sU_n (by omega), f1, sU_s]
          · rw [f3, sU_n (by omega), f2, sU_s]
          · rw [f3, sU_s]
        · rw [s4 (k0 + 1) g' (by omega), s4 (k0 + 2) g' (by omega), s4 (k0 + 3) g' (by omega)]
          exact i3 g' (by omega)
      · show fX5_copy_b10 N (fX5_copy_h10 N f) k0 k1 (nI g) S1 = _
        unfold fX5_copy_b10
        rw [if_neg (show ¬ (8 : Int32) ≤ nI g from nI_ge (b := 8) hg (by decide))]
        unfold fX5_copy_b16
        dsimp only [lt]
        rw [hgc, chk_t hin, chk_t hin, i1 (k1 + 1) g (by omega), ← f1, chk_t hin, chk_t hin, show A1 (k1 + 2) g = S (k1 + 2) g by rw [f1, sU_n (by omega)]; exact i1 _ _ (by omega), ← f2, chk_t hin, chk_t hin, show A2 (k1 + 3) g = S (k1 + 3) g by rw [f2, sU_n (by omega), f1, sU_n (by omega)]; exact i1 _ _ (by omega), ← f3, nI_1]
  obtain ⟨⟨v, S'⟩, r1, r2, r3⟩ := main
  dsimp only at r2 r3
  subst r2
  refine ⟨S', ?_, r3⟩
  unfold fX5_copy fX5_copy_b0
  dsimp only [lt]
  rw [← e0]
  exact r1
/-- all of a book -/
theorem x_copy1 (hk : k0 + 12 < k1 ∨ k1 + 12 < k0) (hN : 700 < N) : ∃ S', fX1_copy N k0 k1 S = some (0, S') ∧ (∀ i j, ¬ (k0 + 1 ≤ i ∧ i ≤ k0 + 12) → S' i j = S i j) ∧ (∀ c g, (c = 0 → g ≤ 1) → c ≤ 4 → g < 6 → S' (k0 + 1 + c) g = S (k1 + 1 + c) g) ∧ S' (k0 + 6) 1 = S (k1 + 6) 1 ∧ (∀ j, j < 1040 → S' (k0 + 7) j = S (k1 + 7) j) ∧ S' (k0 + 8) 3 = S (k1 + 8) 3 ∧ (∀ i, i < 8 → S' (k0 + 9) i = S (k1 + 9) i ∧ S' (k0 + 10) i = S (k1 + 10) i ∧ S' (k0 + 11) i = S (k1 + 11) i) ∧ ∀ i, i < 3 → S' (k0 + 12) i = S (k1 + 12) i := by
  obtain ⟨S1, a1, a2, a3, a4⟩ := x_copy7 (N := N) (k0 := k0 + 1) (k1 := k1 + 1) (S := S) (by omega) hN
  obtain ⟨S2, e2⟩ : ∃ z, z = sC (sU S1 (k0 + 6) 1 (S1 (k1 + 6) 1)) (k1 + 6 + 1) (k0 + 6 + 1) 0 0 1040 := ⟨_, rfl⟩
  have b1 : fX0_copy N (k0 + 6) (k1 + 6) S1 = some (0, S2) := by
    unfold fX0_copy fX0_copy_b0
    dsimp only [lt]
    rw [chk_t (by decide), e2]
    rfl
  have b2 : ∀ i j, i ≠ k0 + 7 → ¬ (i = k0 + 6 ∧ j = 1) → S2 i j = S1 i j := fun i j h1 h2 => by
    rw [e2]
    show (if i = k0 + 6 + 1 then _ else sU S1 (k0 + 6) 1 (S1 (k1 + 6) 1) i) j = _
    rw [if_neg (by omega), sU_n (by omega)]
  have b3 : S2 (k0 + 6) 1 = S (k1 + 6) 1 := by
    rw [e2]
    show (if k0 + 6 = k0 + 6 + 1 then _ else sU S1 (k0 + 6) 1 (S1 (k1 + 6) 1) (k0 + 6)) 1 = _
    rw [if_neg (by omega), sU_s, a2 _ _ (by omega)]
  have b4 : ∀ j, j < 1040 → S2 (k0 + 7) j = S (k1 + 7) j := fun j hj => by
    rw [e2]
    show (if k0 + 7 = k0 + 6 + 1 then va_cpy (sU S1 (k0 + 6) 1 (S1 (k1 + 6) 1) (k1 + 6 + 1)) (sU S1 (k0 + 6) 1 (S1 (k1 + 6) 1) (k0 + 6 + 1)) 0 0 1040 else _) j = _
    rw [if_pos rfl, pk_cpy_in (by omega) (by omega), sU_n (by omega), Nat.sub_zero, Nat.zero_add, a2 _ _ (by omega)]
  obtain ⟨S3, c1, c2, c3, c4⟩ := x_copy5 (N := N) (k0 := k0 + 8) (k1 := k1 + 8) (S := S2) (by omega) hN
  have back : ∀ i j, ¬ (k0 + 1 ≤ i ∧ i ≤ k0 + 12) → S3 i j = S i j := fun i j h => by rw [c2 i j (by omega), b2 i j (by omega) (by omega), a2 i j (by omega)]
  have main : Gv (fX1_copy_h35 N N k0 k1 0 S3) (fun r => r.1 = 0 ∧ (∀ i j, i ≠ k0 + 12 → r.2 i j = S3 i j) ∧ ∀ i, i < 3 → r.2 (k0 + 12) i = S (k1 + 12) i) := by
    refine loopG (A := gS) (fun f g S => fX1_copy_h35 N f k0 k1 (nI g) S) (fun g S' => (∀ i j, i ≠ k0 + 12 → S' i j = S3 i j) ∧ ∀ i, i < g → S' (k0 + 12) i = S (k1 + 12) i) _ 3 ?_ ?_ 3 0 S3 N (by omega) ⟨fun _ _ _ => rfl, fun g' hg' => by omega⟩ (by omega)
    · rintro f A ⟨i1, i2⟩
      exact ⟨(0, A), rfl, rfl, i1, i2⟩
    · rintro f g A hg ⟨i1, i2⟩
      refine Or.inr ⟨sU A (k0 + 12) g (S (k1 + 12) g), ⟨fun i j hi => by rw [sU_n (by omega)]; exact i1 i j hi, fun i hi => ?_⟩, ?_⟩
      · by_cases hh : i = g
        · rw [hh, sU_s]
        · rw [sU_n (by omega)]; exact i2 i (by omega)
      · show fX1_copy_b35 N (fX1_copy_h35 N f) k0 k1 (nI g) A = _
        unfold fX1_copy_b35
        rw [if_neg (show ¬ (3 : Int32) ≤ nI g from nI_ge (b := 3) hg (by decide))]
        unfold fX1_copy_b40
        rw [chk_t (inb_t hg (by decide)), chk_t (inb_t hg (by decide)), nI_clamp (by omega), i1 (k1 + 12) g (by omega), back (k1 + 12) g (by omega), nI_1]
        rfl
  obtain ⟨⟨v, S'⟩, r1, r2, r3, r4⟩ := main
  dsimp only at r2 r3 r4
  subst r2
  refine ⟨S', ?_, fun i j h => by rw [r3 i j (by omega)]; exact back i j h, fun c g h1 h2 h3 => ?_, ?_, fun j hj => ?_, ?_, fun i hi => ?_, r4⟩
  · unfold fX1_copy fX1_copy_b0
    rw [bnd_t a1]
    dsimp only
    rw [bnd_t b1]
    dsimp only
    rw [bnd_t c1]
    exact r1
  · rw [r3 _ _ (by omega), c2 _ _ (by omega), b2 _ _ (by omega) (by omega)]
    rcases (show c = 0 ∨ c = 1 ∨ c = 2 ∨ c = 3 ∨ c = 4 by omega) with rfl | rfl | rfl | rfl | rfl
    · exact a3 g (h1 rfl)
    · exact (a4 g h3).1
    · exact (a4 g h3).2.1
    · exact (a4 g h3).2.2.1
    · exact (a4 g h3).2.2.2
  · rw [r3 _ _ (by omega), c2 _ _ (by omega)]; exact b3
  · rw [r3 _ _ (by omega), c2 _ _ (by omega)]; exact b4 j hj
  · rw [r3 _ _ (by omega)]
    refine c3.trans ?_
    rw [b2 _ _ (by omega) (by omega), a2 _ _ (by omega)]
  · obtain ⟨q1, q2, q3⟩ := c4 i hi
    rw [r3 _ _ (by omega), r3 _ _ (by omega), r3 _ _ (by omega)]
    refine ⟨q1.trans ?_, q2.trans ?_, q3.trans ?_⟩
    · rw [b2 _ _ (by omega) (by omega), a2 _ _ (by omega)]
    · rw [b2 _ _ (by omega) (by omega), a2 _ _ (by omega)]
    · rw [b2 _ _ (by omega) (by omega), a2 _ _ (by omega)]
end
end

/-! part 58.aundo -/
section
/-! undo, see, image, restore: their laws -/
theorem xAct_t {i j : Nat} (h : 21 ≤ i ∧ i ≤ 45) : xAct i j = true := by
  unfold xAct
  rw [decide_eq_true h.1, decide_eq_true h.2]
  simp
theorem mAct_t {i j : Nat} (h : i = 17 ∨ (32 ≤ i ∧ i ≤ 36) ∨ (48 ≤ i ∧ i ≤ 50) ∨ (60 ≤ i ∧ i ≤ 65) ∨ (i = 99 ∧ ((37 ≤ j ∧ j ≤ 40) ∨ (57 ≤ j ∧ j ≤ 59)))) : mAct i j = true := by
  unfold mAct
  simp only [Bool.or_eq_true, Bool.and_eq_true, beq_iff_eq, decide_eq_true_iff]
  omega
theorem st_undo : Lw_undo JJ := by
  intro SX SM hJ
  have hJ1 := hJ.same xSame.rf (code_same SM 0)
  obtain ⟨S1, hS1⟩ : ∃ z, z = sU SM 99 4 0 := ⟨_, rfl⟩
  rw [← hS1] at hJ1
  obtain ⟨n0, n1, hT, hN, hI, hP, hM⟩ := id hJ1
  obtain ⟨s, ⟨a, f1, f2, f3, f4⟩, q, t⟩ := hN
  have f2 : SX 26 1 = nI a := f2
  by_cases h0 : a = 0
  · subst h0
    refine ⟨5000, (-1, SX), 5000, (-1, S1), ?_, ?_, rfl, hJ1⟩
    · show fX11_undo 5000 SX = _
      unfold fX11_undo fX11_undo_b0 fX0_takeBack fX0_takeBack_b0
      rw [f2, if_neg (by decide)]
      rfl
    · show fX12_undo 5000 SM = _
      unfold fX12_undo fX12_undo_b0
      dsimp only [lt]
      rw [← hS1, f3, if_pos (by decide)]
      rfl
  · obtain ⟨X2, w1, w2, w3⟩ := x_read (N := 5000) (st := 21) (nd := 27) (a := 26 * (a - 1)) (S := sU SX 26 1 (nI (a - 1))) (by decide) rfl (by omega) (by decide)
    obtain ⟨M2, u1, u2, u3⟩ := m_unpack (N := 5000) (nd := 36) (a := 26 * (a - 1)) (S := sU S1 99 39 (nI (a - 1))) (by decide) (by show 26 * (a - 1) + 26 ≤ 1040; omega) (by decide) (by decide)
    have x2 : ∀ i j, ¬ (21 ≤ i ∧ i ≤ 25) → ¬ (i = 26 ∧ j = 1) → X2 i j = SX i j := fun i j h1 h2 => by rw [w2 i j (by omega) (by omega), sU_n h2]
    have m2 : ∀ i j, ¬ (32 ≤ i ∧ i ≤ 35 ∧ j < 6) → ¬ (i = 99 ∧ (j = 37 ∨ j = 38 ∨ j = 39)) → M2 i j = S1 i j := fun i j h1 h2 => by rw [u2 i j h1 (by omega), sU_n (by omega)]
    refine ⟨5000, (nI (a - 1), X2), 5000, (nI (a - 1), M2), ?_, ?_, rfl, ?_⟩
    · show fX11_undo 5000 SX = _
      unfold fX11_undo fX11_undo_b0 fX0_takeBack fX0_takeBack_b0
      rw [f2, if_pos (show (1 : Int32) ≤ nI a from nI_le (a := 1) (by omega) (by omega))]
      unfold fX0_takeBack_b10
      dsimp only [lt]
      rw [f2, nI_m1 (by omega), sU_s, show nI (a - 1) * 26 = nI (26 * (a - 1)) by rw [show (26 : Int32) = nI 26 from rfl, pk_mul, Nat.mul_comm]]
      show bnd (bnd (fX7_read 5000 21 27 (nI (26 * (a - 1))) (sU SX 26 1 (nI (a - 1)))) _) _ = _
      rw [bnd_t w1]
      show some (X2 26 1, X2) = _
      rw [w2 26 1 (by omega) (by omega), sU_s]
    · show fX12_undo 5000 SM = _
      unfold fX12_undo fX12_undo_b0
      dsimp only [lt]
      rw [← hS1, f3, if_neg (nI_ne0 (by omega) (by omega))]
      unfold fX12_undo_b14
      dsimp only [lt]
      rw [f3, nI_m1 (by omega), sU_s, show 26 * nI (a - 1) = nI (26 * (a - 1)) by rw [show (26 : Int32) = nI 26 from rfl, pk_mul], bnd_t u1]
      dsimp only
      rw [u2 99 39 (by omega) (by omega), sU_s]
    · show JJ X2 M2
      refine hJ1.act (fun i j hij => x2 i j (fun q => by rw [xAct_t (by omega)] at hij; cases hij) (fun q => by rw [xAct_t (by omega)] at hij; cases hij)) (fun i j hij => m2 i j (fun q => by rw [mAct_t (by omega)] at hij; cases hij) (fun q => by rw [mAct_t (by omega)] at hij; cases hij)) (fun n0 n1 hT hN hI => ?_)
      have h6 := hT.2.1.2.2
      obtain ⟨s, ⟨a', f1', f2', f3', f4'⟩, ⟨q, g1, g2, g3, g4⟩, t⟩ := hN
      have ea : a' = a := (nI_eq (by omega) (by omega)).mp (f2'.symm.trans f2)
      subst ea
      refine ⟨⟨(f4' (a' - 1) (by omega)).on6 h6 (fun c g h1 hc hg => ?_) (fun c g h1 hc hg => ?_), ⟨a' - 1, by omega, ?_, ?_, fun i hi => (f4' i (by omega)).on (fun c g _ _ => ?_) (fun c g _ _ => ?_)⟩, ⟨q, g1, ?_, ?_, fun i hi => ?_⟩, fun i hi => ?_⟩, hI.on (x2 0 8 (by omega) (by omega)) (fun i j h1 h2 => x2 i j (by omega) (by omega)) (fun i j h1 h2 => m2 i j (by omega) (by omega)) (m2 99 57 (by omega) (by omega)) (m2 99 58 (by omega) (by omega)) (m2 99 59 (by omega) (by omega))⟩
      · unfold xAc xSt
        obtain ⟨p1, p2, p3⟩ := w3
        obtain ⟨q1, q2, q3, q4⟩ := p3 g hg
        have e27 : ∀ j, sU SX 26 1 (nI (a' - 1)) 27 j = SX (20 + 7) j := fun j => sU_n (by omega)
        rcases (show c = 0 ∨ c = 1 ∨ c = 2 ∨ c = 3 ∨ c = 4 by omega) with rfl | rfl | rfl | rfl | rfl
        · rcases (show g = 0 ∨ g = 1 by have := h1 rfl; omega) with rfl | rfl
          · exact p1.symm.trans (e27 _)
          · exact p2.symm.trans (e27 _)
        · exact q1.symm.trans (e27 _)
        · exact q2.symm.trans (e27 _)
        · exact q3.symm.trans (e27 _)
        · exact q4.symm.trans (e27 _)
      · unfold mAc mSt
        obtain ⟨p1, p2, p3⟩ := u3
        obtain ⟨q1, q2, q3, q4⟩ := p3 g hg
        have e36 : ∀ j, sU S1 99 39 (nI (a' - 1)) 36 j = S1 36 j := fun j => sU_n (by omega)
        rcases (show c = 0 ∨ c = 1 ∨ c = 2 ∨ c = 3 ∨ c = 4 by omega) with rfl | rfl | rfl | rfl | rfl
        · rcases (show g = 0 ∨ g = 1 by have := h1 rfl; omega) with rfl | rfl
          · exact p1.symm.trans (e36 _)
          · exact p2.symm.trans (e36 _)
        · exact q1.symm.trans (e36 _)
        · exact q2.symm.trans (e36 _)
        · exact q3.symm.trans (e36 _)
        · exact q4.symm.trans (e36 _)
      · show X2 26 1 = _
        rw [w2 26 1 (by omega) (by omega), sU_s]
      · rw [u2 99 39 (by omega) (by omega), sU_s]
      · unfold xAc
        rw [show X2 (20 + 7) = SX (20 + 7) from funext fun j => x2 _ j (by omega) (by omega)]
      · unfold mAc
        rw [show M2 36 = S1 36 from funext fun j => m2 _ j (by omega) (by omega)]
      · rw [x2 (20 + 8) 3 (by omega) (by omega)]; exact g2
      · rw [m2 99 40 (by omega) (by omega)]; exact g3
      · rw [x2 (20 + 9) i (by omega) (by omega), x2 (20 + 10) i (by omega) (by omega), x2 (20 + 11) i (by omega) (by omega), m2 48 i (by omega) (by omega), m2 49 i (by omega) (by omega), m2 50 i (by omega) (by omega)]
        exact g4 i hi
      · rw [x2 (20 + 12) i (by omega) (by omega), m2 17 i (by omega) (by omega)]
        exact t i hi
theorem st_image : Lw_image JJ := by
  intro SX SM hJ
  have hJ1 := hJ.same xSame.rf (code_same SM 0)
  obtain ⟨S1, hS1⟩ : ∃ z, z = sU SM 99 4 0 := ⟨_, rfl⟩
  rw [← hS1] at hJ1
  obtain ⟨X2, a1, a2, a3, a4, a5, a6, a7, a8⟩ := x_copy1 (N := 5000) (k0 := 33) (k1 := 20) (S := SX) (by decide) (by decide)
  obtain ⟨S4, e4⟩ : ∃ z, z = sU (sU (sU S1 99 57 1) 99 58 (S1 99 39)) 99 59 (S1 99 40) := ⟨_, rfl⟩
  have s4 : ∀ i j, ¬ (i = 99 ∧ 57 ≤ j ∧ j ≤ 59) → S4 i j = S1 i j := fun i j h => by rw [e4, sU_n (by omega), sU_n (by omega), sU_n (by omega)]
  obtain ⟨M1, p1, p2, p3⟩ := m_pack (N := 5000) (nd := 60) (a := 0) (S := S4) (by decide) (by decide) (by decide) (by decide)
  obtain ⟨M2, b1, b2, b3⟩ := m_copyTo (N := 5000) (k0 := 61) (k1 := 36) (n := 1040) (S := M1) (by decide) rfl rfl (by decide) (by decide)
  obtain ⟨M3, c1, c2, c3⟩ := m_copyTo (N := 5000) (k0 := 62) (k1 := 48) (n := 8) (S := M2) (by decide) rfl rfl (by decide) (by decide)
  obtain ⟨M4, d1, d2, d3⟩ := m_copyTo (N := 5000) (k0 := 63) (k1 := 49) (n := 8) (S := M3) (by decide) rfl rfl (by decide) (by decide)
  obtain ⟨M5, f1, f2, f3⟩ := m_copyTo (N := 5000) (k0 := 64) (k1 := 50) (n := 8) (S := M4) (by decide) rfl rfl (by decide) (by decide)
  obtain ⟨M6, g1, g2, g3⟩ := m_copyTo (N := 5000) (k0 := 65) (k1 := 17) (n := 3) (S := M5) (by decide) rfl rfl (by decide) (by decide)
  have m1 : ∀ i j, i ≠ 60 → M1 i j = S4 i j := fun i j h => p2 i j (by omega)
  have m6 : ∀ i j, ¬ (60 ≤ i ∧ i ≤ 65) → M6 i j = S4 i j := fun i j h => by rw [g2 i j (by omega), f2 i j (by omega), d2 i j (by omega), c2 i j (by omega), b2 i j (by omega), m1 i j (by omega)]
  have m7 : ∀ i j, ¬ (60 ≤ i ∧ i ≤ 65) → ¬ (i = 99 ∧ 57 ≤ j ∧ j ≤ 59) → M6 i j = S1 i j := fun i j h1 h2 => by rw [m6 i j h1, s4 i j h2]
  have x2 : ∀ i j, ¬ (34 ≤ i ∧ i ≤ 45) → ¬ (i = 0 ∧ j = 8) → sU X2 0 8 1 i j = SX i j := fun i j h1 h2 => by rw [sU_n h2, a2 i j (by omega)]
  refine ⟨5000, (0, sU X2 0 8 1), 5000, (0, M6), ?_, ?_, rfl, ?_⟩
  · show fX11_image 5000 SX = _
    unfold fX11_image fX11_image_b0
    rw [bnd_t a1]
    rfl
  · show fX12_image 5000 SM = _
    unfold fX12_image fX12_image_b0
    dsimp only [lt]
    rw [← hS1, sU_n (i := 99) (j := 39) (by omega), show sU (sU S1 99 57 1) 99 58 (S1 99 39) 99 40 = S1 99 40 by rw [sU_n (by omega), sU_n (by omega)], ← e4]
    rw [bnd_t (show fX12_pack 5000 60 0 S4 = some (0, M1) from p1)]
    dsimp only
    rw [bnd_t b1]
    dsimp only
    rw [bnd_t c1]
    dsimp only
    rw [bnd_t d1]
    dsimp only
    rw [bnd_t f1]
    dsimp only
    rw [bnd_t g1]
  · show JJ (sU X2 0 8 1) M6
    refine hJ1.act (fun i j hij => x2 i j (fun q => by rw [xAct_t (by omega)] at hij; cases hij) (fun q => by rw [q.1, q.2] at hij; cases hij)) (fun i j hij => m7 i j (fun q => by rw [mAct_t (by omega)] at hij; cases hij) (fun q => by rw [mAct_t (by omega)] at hij; cases hij)) (fun n0 n1 hT hN hI => ⟨?_, Or.inr ⟨?_, ?_, ?_⟩⟩)
    · have h6 := hT.2.1.2.2
      refine jBook.cp hN h6 (fun c g h1 h2 h3 => x2 _ _ (by omega) (by omega)) (x2 _ _ (by omega) (by omega)) (fun j hj => x2 _ _ (by omega) (by omega)) (x2 _ _ (by omega) (by omega)) (fun i hi => ⟨x2 _ _ (by omega) (by omega), x2 _ _ (by omega) (by omega), x2 _ _ (by omega) (by omega)⟩) (fun i hi => x2 _ _ (by omega) (by omega)) (fun c g h1 h2 h3 => ?_) (m7 _ _ (by omega) (by omega)) (m7 _ _ (by omega) (by omega)) (fun j hj => m7 _ _ (by omega) (by omega)) (fun i hi => ⟨m7 _ _ (by omega) (by omega), m7 _ _ (by omega) (by omega), m7 _ _ (by omega) (by omega)⟩) (fun i hi => m7 _ _ (by omega) (by omega))
      unfold mSt
      by_cases h0 : c = 0
      · rw [if_pos h0, if_pos h0, m7 _ _ (by omega) (by have := h1 h0; omega)]
      · rw [if_neg h0, if_neg h0, m7 _ _ (by omega) (by omega)]
    · exact sU_s
    · rw [m6 99 57 (by omega), e4, sU_n (by omega), sU_n (by omega), sU_s]
    · have h6 := hT.2.1.2.2
      have y2 : ∀ i j, 34 ≤ i → sU X2 0 8 1 i j = X2 i j := fun i j h => sU_n (by omega)
      refine jBook.cp hN h6 (fun c g h1 h2 h3 => (y2 _ _ (by omega)).trans (a3 c g h1 h2 h3)) ((y2 _ _ (by omega)).trans a4) (fun j hj => (y2 _ _ (by omega)).trans (a5 j hj)) ((y2 _ _ (by omega)).trans a6) (fun i hi => ⟨(y2 _ _ (by omega)).trans (a7 i hi).1, (y2 _ _ (by omega)).trans (a7 i hi).2.1, (y2 _ _ (by omega)).trans (a7 i hi).2.2⟩) (fun i hi => (y2 _ _ (by omega)).trans (a8 i hi)) (fun c g h1 h2 h3 => ?_) ?_ ?_ (fun j hj => ?_) (fun i hi => ⟨?_, ?_, ?_⟩) (fun i hi => ?_)
      · have e60 : ∀ j, M6 60 j = M1 60 j := fun j => by rw [g2 60 j (by omega), f2 60 j (by omega), d2 60 j (by omega), c2 60 j (by omega), b2 60 j (by omega)]
        unfold mAc mSt
        obtain ⟨q1, q2, q3, q4⟩ := p3.2.2 g h3
        rcases (show c = 0 ∨ c = 1 ∨ c = 2 ∨ c = 3 ∨ c = 4 by omega) with rfl | rfl | rfl | rfl | rfl
        · rcases (show g = 0 ∨ g = 1 by have := h1 rfl; omega) with rfl | rfl
          · exact ((e60 _).trans p3.1).trans (s4 _ _ (by omega))
          · exact ((e60 _).trans p3.2.1).trans (s4 _ _ (by omega))
        · exact ((e60 _).trans q1).trans (s4 _ _ (by omega))
        · exact ((e60 _).trans q2).trans (s4 _ _ (by omega))
        · exact ((e60 _).trans q3).trans (s4 _ _ (by omega))
        · exact ((e60 _).trans q4).trans (s4 _ _ (by omega))
      · rw [m6 99 58 (by omega), e4, sU_n (by omega), sU_s]
      · rw [m6 99 59 (by omega), e4, sU_s]
      · rw [g2 61 j (by omega), f2 61 j (by omega), d2 61 j (by omega), c2 61 j (by omega), b3 j hj, m1 36 j (by omega), s4 36 j (by omega)]
      · rw [g2 62 i (by omega), f2 62 i (by omega), d2 62 i (by omega), c3 i hi, b2 48 i (by omega), m1 48 i (by omega), s4 48 i (by omega)]
      · rw [g2 63 i (by omega), f2 63 i (by omega), d3 i hi, c2 49 i (by omega), b2 49 i (by omega), m1 49 i (by omega), s4 49 i (by omega)]
      · rw [g2 64 i (by omega), f3 i hi, d2 50 i (by omega), c2 50 i (by omega), b2 50 i (by omega), m1 50 i (by omega), s4 50 i (by omega)]
      · rw [g3 i hi, f2 17 i (by omega), d2 17 i (by omega), c2 17 i (by omega), b2 17 i (by omega), m1 17 i (by omega), s4 17 i (by omega)]
theorem st_restore : Lw_restore JJ := by
  intro SX SM hJ
  have hJ1 := hJ.same xSame.rf (code_same SM 0)
  obtain ⟨S1, hS1⟩ : ∃ z, z = sU SM 99 4 0 := ⟨_, rfl⟩
  rw [← hS1] at hJ1
  obtain ⟨n0, n1, hT, hN, hI, hP, hM⟩ := id hJ1
  rcases hI with ⟨i1, i2⟩ | ⟨i1, i2, i3⟩
  · refine ⟨5000, (0, SX), 5000, (0, S1), ?_, ?_, rfl, hJ1⟩
    · show fX11_restore 5000 SX = _
      unfold fX11_restore fX11_restore_b0
      rw [i1, if_pos rfl]
      unfold fX11_restore_b18
      rw [i1]
      rfl
    · show fX12_restore 5000 SM = _
      unfold fX12_restore fX12_restore_b0
      dsimp only [lt]
      rw [← hS1, i2, if_pos rfl]
      rfl
  · obtain ⟨X2, a1, a2, a3, a4, a5, a6, a7, a8⟩ := x_copy1 (N := 5000) (k0 := 20) (k1 := 33) (S := SX) (by decide) (by decide)
    obtain ⟨S4, e4⟩ : ∃ z, z = sU (sU S1 99 39 (S1 99 58)) 99 40 (S1 99 59) := ⟨_, rfl⟩
    have s4 : ∀ i j, ¬ (i = 99 ∧ 39 ≤ j ∧ j ≤ 40) → S4 i j = S1 i j := fun i j h => by rw [e4, sU_n (by omega), sU_n (by omega)]
    obtain ⟨M1, p1, p2, p3⟩ := m_unpack (N := 5000) (nd := 60) (a := 0) (S := S4) (by decide) (by decide) (by decide) (by decide)
    obtain ⟨M2, b1, b2, b3⟩ := m_copyTo (N := 5000) (k0 := 36) (k1 := 61) (n := 1040) (S := M1) (by decide) rfl rfl (by decide) (by decide)
    obtain ⟨M3, c1, c2, c3⟩ := m_copyTo (N := 5000) (k0 := 48) (k1 := 62) (n := 8) (S := M2) (by decide) rfl rfl (by decide) (by decide)
    obtain ⟨M4, d1, d2, d3⟩ := m_copyTo (N := 5000) (k0 := 49) (k1 := 63) (n := 8) (S := M3) (by decide) rfl rfl (by decide) (by decide)
    obtain ⟨M5, f1, f2, f3⟩ := m_copyTo (N := 5000) (k0 := 50) (k1 := 64) (n := 8) (S := M4) (by decide) rfl rfl (by decide) (by decide)
    obtain ⟨M6, g1, g2, g3⟩ := m_copyTo (N := 5000) (k0 := 17) (k1 := 65) (n := 3) (S := M5) (by decide) rfl rfl (by decide) (by decide)
    have m5 : ∀ i j, i ≠ 17 → i ≠ 36 → i ≠ 48 → i ≠ 49 → i ≠ 50 → M6 i j = M1 i j := fun i j h1 h2 h3 h4 h5 => by rw [g2 i j h1, f2 i j h5, d2 i j h4, c2 i j h3, b2 i j h2]
    have m1 : ∀ i j, ¬ (32 ≤ i ∧ i ≤ 35 ∧ j < 6) → ¬ (i = 99 ∧ (j = 37 ∨ j = 38)) → M1 i j = S4 i j := fun i j h1 h2 => p2 i j h1 h2
    have m7 : ∀ i j, i ≠ 17 → i ≠ 36 → i ≠ 48 → i ≠ 49 → i ≠ 50 → ¬ (32 ≤ i ∧ i ≤ 35 ∧ j < 6) → ¬ (i = 99 ∧ 37 ≤ j ∧ j ≤ 40) → M6 i j = S1 i j := fun i j h1 h2 h3 h4 h5 h6 h7 => by rw [m5 i j h1 h2 h3 h4 h5, m1 i j h6 (by omega), s4 i j (by omega)]
    have x2 : ∀ i j, ¬ (21 ≤ i ∧ i ≤ 32) → X2 i j = SX i j := fun i j h1 => a2 i j (by omega)
    refine ⟨5000, (1, X2), 5000, (1, M6), ?_, ?_, rfl, ?_⟩
    · show fX11_restore 5000 SX = _
      unfold fX11_restore fX11_restore_b0
      rw [i1, if_neg (by decide)]
      unfold fX11_restore_b7
      rw [bnd_t a1]
      unfold fX11_restore_b18
      show chk (zb (X2 0 8)) (some (X2 0 8, X2)) = _
      rw [x2 0 8 (by omega), i1]
      rfl
    · show fX12_restore 5000 SM = _
      unfold fX12_restore fX12_restore_b0
      dsimp only [lt]
      rw [← hS1, i2, if_neg (by decide)]
      unfold fX12_restore_b14
      dsimp only [lt]
      rw [sU_n (i := 99) (j := 59) (by omega), ← e4]
      rw [bnd_t (show fX12_unpack 5000 60 0 S4 = some (0, M1) from p1)]
      dsimp only
      rw [bnd_t b1]
      dsimp only
      rw [bnd_t c1]
      dsimp only
      rw [bnd_t d1]
      dsimp only
      rw [bnd_t f1]
      dsimp only
      rw [bnd_t g1]
    · show JJ X2 M6
      refine hJ1.act (fun i j hij => x2 i j (fun q => by rw [xAct_t (by omega)] at hij; cases hij)) (fun i j hij => m7 i j ?_ ?_ ?_ ?_ ?_ ?_ ?_) (fun n0 n1 hT hN hI => ?_)
      · exact fun q => by rw [mAct_t (by omega)] at hij; cases hij
      · exact fun q => by rw [mAct_t (by omega)] at hij; cases hij
      · exact fun q => by rw [mAct_t (by omega)] at hij; cases hij
      · exact fun q => by rw [mAct_t (by omega)] at hij; cases hij
      · exact fun q => by rw [mAct_t (by omega)] at hij; cases hij
      · exact fun q => by rw [mAct_t (by omega)] at hij; cases hij
      · exact fun q => by rw [mAct_t (by omega)] at hij; cases hij
      · have h6 := hT.2.1.2.2
        have hI2 : jImg n0 n1 SX S1 := by
          rcases hI with ⟨q, -⟩ | ⟨-, -, q⟩
          · rw [i1] at q
            exact absurd q (by decide)
          · exact q
        refine ⟨jBook.cp hI2 h6 a3 a4 a5 a6 a7 a8 (fun c g h1 h2 h3 => ?_) ?_ ?_ (fun j hj => ?_) (fun i hi => ⟨?_, ?_, ?_⟩) (fun i hi => ?_), hI.on (x2 _ _ (by omega)) (fun i j h1 h2 => x2 _ _ (by omega)) (fun i j h1 h2 => m7 _ _ (by omega) (by omega) (by omega) (by omega) (by omega) (by omega) (by omega)) (m7 _ _ (by omega) (by omega) (by omega) (by omega) (by omega) (by omega) (by omega)) (m7 _ _ (by omega) (by omega) (by omega) (by omega) (by omega) (by omega) (by omega)) (m7 _ _ (by omega) (by omega) (by omega) (by omega) (by omega) (by omega) (by omega))⟩
        · have e60 : ∀ j, S4 60 j = S1 60 j := fun j => s4 60 j (by omega)
          unfold mAc mSt
          obtain ⟨q1, q2, q3, q4⟩ := p3.2.2 g h3
          rcases (show c = 0 ∨ c = 1 ∨ c = 2 ∨ c = 3 ∨ c = 4 by omega) with rfl | rfl | rfl | rfl | rfl
          · rcases (show g = 0 ∨ g = 1 by have := h1 rfl; omega) with rfl | rfl
            · exact ((m5 99 37 (by omega) (by omega) (by omega) (by omega) (by omega)).trans p3.1.symm).trans (e60 _)
            · exact ((m5 99 38 (by omega) (by omega) (by omega) (by omega) (by omega)).trans p3.2.1.symm).trans (e60 _)
          · exact ((m5 32 g (by omega) (by omega) (by omega) (by omega) (by omega)).trans q1.symm).trans (e60 _)
          · exact ((m5 33 g (by omega) (by omega) (by omega) (by omega) (by omega)).trans q2.symm).trans (e60 _)
          · exact ((m5 34 g (by omega) (by omega) (by omega) (by omega) (by omega)).trans q3.symm).trans (e60 _)
          · exact ((m5 35 g (by omega) (by omega) (by omega) (by omega) (by omega)).trans q4.symm).trans (e60 _)
        · rw [m5 99 39 (by omega) (by omega) (by omega) (by omega) (by omega), m1 99 39 (by omega) (by omega), e4, sU_n (by omega), sU_s]
        · rw [m5 99 40 (by omega) (by omega) (by omega) (by omega) (by omega), m1 99 40 (by omega) (by omega), e4, sU_s]
        · rw [g2 36 j (by omega), f2 36 j (by omega), d2 36 j (by omega), c2 36 j (by omega), b3 j hj, m1 61 j (by omega) (by omega), s4 61 j (by omega)]
        · rw [g2 48 i (by omega), f2 48 i (by omega), d2 48 i (by omega), c3 i hi, b2 62 i (by omega), m1 62 i (by omega) (by omega), s4 62 i (by omega)]
        · rw [g2 49 i (by omega), f2 49 i (by omega), d3 i hi, c2 63 i (by omega), b2 63 i (by omega), m1 63 i (by omega) (by omega), s4 63 i (by omega)]
        · rw [g2 50 i (by omega), f3 i hi, d2 64 i (by omega), c2 64 i (by omega), b2 64 i (by omega), m1 64 i (by omega) (by omega), s4 64 i (by omega)]
        · rw [g3 i hi, f2 65 i (by omega), d2 65 i (by omega), c2 65 i (by omega), b2 65 i (by omega), m1 65 i (by omega) (by omega), s4 65 i (by omega)]
end

/-! part 59.achorus -/
section
/-! how many bits; chorus -/
noncomputable def bcV (x : Int32) : Int32 := match fJ6_bitCount_0f7a4 0 x (fun _ _ => 0) with
  | some o => o.1
  | none => 0
theorem x_bitCount {N : Nat} {x : Int32} {S : gS} : fJ6_bitCount_0f7a4 N x S = some (bcV x, S) := rfl
noncomputable def boP : Nat → Int32 → Int32 → Int32
  | 0, a, _ => a
  | n + 1, a, v => if v = 0 then a else boP n (a + 1) (v &&& (v - 1))
noncomputable def boE : Nat → Int32 → Bool
  | 0, v => decide (v = 0)
  | n + 1, v => decide (v = 0) || boE n (v &&& (v - 1))
theorem m_bitsOf_h {N : Nat} {S : gS} : ∀ (n : Nat) (a v : Int32) (fuel : Nat), boE n v = true → n < fuel → fX12_bitsOf_h4 N fuel a v S = some (boP (n + 1) a v, S) := by
  intro n
  induction n with
  | zero =>
    intro a v fuel h1 h2
    obtain ⟨f, rfl⟩ : ∃ f, fuel = f + 1 := ⟨fuel - 1, by omega⟩
    have h0 : v = 0 := of_decide_eq_true h1
    show fX12_bitsOf_b4 N _ a v S = some ((if v = 0 then a else boP 0 (a + 1) (v &&& (v - 1))), S)
    unfold fX12_bitsOf_b4
    rw [if_pos h0, if_pos h0]
    rfl
  | succ n ih =>
    intro a v fuel h1 h2
    obtain ⟨f, rfl⟩ : ∃ f, fuel = f + 1 := ⟨fuel - 1, by omega⟩
    show fX12_bitsOf_b4 N (fX12_bitsOf_h4 N f) a v S = some ((if v = 0 then a else boP (n + 1) (a + 1) (v &&& (v - 1))), S)
    unfold fX12_bitsOf_b4
    by_cases h0 : v = 0
    · rw [if_pos h0, if_pos h0]
      rfl
    · rw [if_neg h0, if_neg h0]
      have h3 : boE n (v &&& (v - 1)) = true := by
        have h1 : (decide (v = 0) || boE n (v &&& (v - 1))) = true := h1
        rw [decide_eq_false h0, Bool.false_or] at h1
        exact h1
      exact ih (a + 1) (v &&& (v - 1)) f h3 (by omega)
theorem bo_all : ∀ x, x < 256 → boE 8 (nI x) = true ∧ boP 9 0 (nI x) = bcV (nI x) := by decide +kernel
theorem m_bitsOf {N x : Nat} {S : gS} (hx : x < 256) (hN : 8 < N) : fX12_bitsOf N (nI x) S = some (bcV (nI x), S) := by
  obtain ⟨h1, h2⟩ := bo_all x hx
  rw [← h2]
  exact m_bitsOf_h 8 0 (nI x) N h1 hN
noncomputable def dN (c : Nat → Bool) : Nat → Nat
  | 0 => 0
  | n + 1 => dN c n + if c n = true then 2 ^ n else 0
noncomputable def bf (b0 b1 b2 b3 b4 b5 b6 b7 : Bool) (i : Nat) : Bool := match i with
  | 0 => b0
  | 1 => b1
  | 2 => b2
  | 3 => b3
  | 4 => b4
  | 5 => b5
  | 6 => b6
  | 7 => b7
  | _ => false
theorem bits_all : ∀ n, n < 9 → ∀ b0 b1 b2 b3 b4 b5 b6 b7 : Bool, drB (bf b0 b1 b2 b3 b4 b5 b6 b7) n 0 0 = nI (dN (bf b0 b1 b2 b3 b4 b5 b6 b7) n) ∧ dN (bf b0 b1 b2 b3 b4 b5 b6 b7) n < 2 ^ n ∧ bcV (nI (dN (bf b0 b1 b2 b3 b4 b5 b6 b7) n)) = nI (cntB (bf b0 b1 b2 b3 b4 b5 b6 b7) n) := by decide +kernel
theorem dN_eq {c c' : Nat → Bool} : ∀ n, (∀ i, i < n → c i = c' i) → dN c n = dN c' n := by
  intro n
  induction n with
  | zero => intro _; rfl
  | succ n ih =>
    intro h
    show dN c n + (if c n = true then 2 ^ n else 0) = dN c' n + (if c' n = true then 2 ^ n else 0)
    rw [ih (fun i hi => h i (by omega)), h n (by omega)]
theorem cntB_eq {c c' : Nat → Bool} : ∀ n, (∀ i, i < n → c i = c' i) → cntB c n = cntB c' n := by
  intro n
  induction n with
  | zero => intro _; rfl
  | succ n ih =>
    intro h
    show cntB c n + (if c n = true then 1 else 0) = cntB c' n + (if c' n = true then 1 else 0)
    rw [ih (fun i hi => h i (by omega)), h n (by omega)]
theorem bits_of {c : Nat → Bool} {n : Nat} (hn : n ≤ 8) : drB c n 0 0 = nI (dN c n) ∧ dN c n < 2 ^ n ∧ bcV (nI (dN c n)) = nI (cntB c n) := by
  have e : ∀ i, i < n → c i = bf (c 0) (c 1) (c 2) (c 3) (c 4) (c 5) (c 6) (c 7) i := by
    intro i hi
    rcases (show i = 0 ∨ i = 1 ∨ i = 2 ∨ i = 3 ∨ i = 4 ∨ i = 5 ∨ i = 6 ∨ i = 7 by omega) with rfl | rfl | rfl | rfl | rfl | rfl | rfl | rfl <;> rfl
  rw [drB_eq n 0 0 (fun i _ hi => e i (by omega)), dN_eq n e, cntB_eq n e]
  exact bits_all n (by omega) _ _ _ _ _ _ _ _
theorem pow256 {n : Nat} (hn : n ≤ 8) : 2 ^ n ≤ 256 := by
  rcases (show n = 0 ∨ n = 1 ∨ n = 2 ∨ n = 3 ∨ n = 4 ∨ n = 5 ∨ n = 6 ∨ n = 7 ∨ n = 8 by omega) with rfl | rfl | rfl | rfl | rfl | rfl | rfl | rfl | rfl <;> decide
theorem m_bitsD {N n : Nat} {c : Nat → Bool} {S : gS} (hn : n ≤ 8) (hN : 8 < N) : fX12_bitsOf N (drB c n 0 0) S = some (nI (cntB c n), S) := by
  obtain ⟨h1, h2, h3⟩ := bits_of (c := c) hn
  have := pow256 hn
  rw [h1, m_bitsOf (by omega) hN, h3]
theorem x_bitsD {N n : Nat} {c : Nat → Bool} {S : gS} (hn : n ≤ 8) : fJ6_bitCount_0f7a4 N (drB c n 0 0) S = some (nI (cntB c n), S) := by
  obtain ⟨h1, h2, h3⟩ := bits_of (c := c) hn
  rw [x_bitCount, h1, h3]
noncomputable def chR (v : Nat → Int32) : Nat → Int32 × Int32
  | 0 => (-1, -1)
  | k + 1 => if v k ≤ (chR v k).2 then chR v k else (nI (k + 1), v k)
noncomputable def bC (n0 w : Nat) (SX : gS) (h : Nat) : Int32 := nI (cntB (fun k => drS (SX (xtw SX + 2) k) (SX (xtw SX + 1) k) (nI h) (wetS w (SX (xtw SX + 9)) h) (bt (SX 21 1) (nI k))) n0)
theorem st_chorus : Lw_chorus JJ := by
  intro SX SM x1 hJ
  have hJ1 := hJ.same xSame.rf (code_same SM 0)
  have c0 := code_at SM 0
  obtain ⟨S1, hS1⟩ : ∃ z, z = sU SM 99 4 0 := ⟨_, rfl⟩
  rw [← hS1] at hJ1 c0
  obtain ⟨n0, n1, w, h, hT, hN, D⟩ := hJ1.dr
  have h8 := D.1.2.2
  have h9 := D.2.2.2.2.2.1.1
  have hF : fX12_chorus 1000 x1 SM = if iv (wth x1 1 60) = 0 then fX12_chorus_b17 1000 S1 else fX12_chorus_b23 1000 x1 S1 := by
    unfold fX12_chorus fX12_chorus_b0
    dsimp only [lt]
    rw [← hS1, bnd_t in_1_60]
  cases hx : wth x1 1 60 with
  | false =>
    refine stFl 1000 1000 2 hJ two_ne (Or.inr rfl) (niF hx) ?_
    show fX12_chorus 1000 x1 SM = _
    rw [hF, hx, ← hS1]
    rfl
  | true =>
  obtain ⟨c, c1, c2, rfl⟩ := wth_of (a := 1) (b := 60) (by decide) (by decide) hx
  obtain ⟨S2, p1, D2, E⟩ := q_begin D c0
  obtain ⟨v, hv⟩ : ∃ z : Nat → Int32, z = fun k => bC n0 w SX (h + k) := ⟨_, rfl⟩
  refine stSu 1000 1000 (chR v c).1 hJ rfl (Or.inl rfl) ?_ ?_
  · have e : fX11_chorus 1000 (nI c) SX = fX11_chorus_h14 1000 1000 (nI c) (-1) (-1) 1 SX := niT hx
    show Gv (fX11_chorus 1000 (nI c) SX) _
    rw [e]
    refine loopG (A := Unit) (fun f k _ => fX11_chorus_h14 1000 f (nI c) (chR v k).1 (chR v k).2 (nI (k + 1)) SX) (fun _ _ => True) _ c ?_ ?_ c 0 () 1000 (by omega) trivial (by omega)
    · rintro f a -
      refine ⟨(0, (chR v c).1, SX), ?_, rfl, rfl, xSame.rf⟩
      show fX11_chorus_b14 1000 _ (nI c) _ _ (nI (c + 1)) SX = _
      unfold fX11_chorus_b14
      rw [if_pos (nI_lt (by omega) (by omega))]
      rfl
    · rintro f k a hk -
      refine Or.inr ⟨(), trivial, ?_⟩
      show fX11_chorus_b14 1000 (fX11_chorus_h14 1000 f) (nI c) _ _ (nI (k + 1)) SX = fX11_chorus_h14 1000 f (nI c) (if v k ≤ (chR v k).2 then chR v k else (nI (k + 1), v k)).1 (if v k ≤ (chR v k).2 then chR v k else (nI (k + 1), v k)).2 (nI (k + 1 + 1)) SX
      unfold fX11_chorus_b14
      rw [if_neg (nI_nlt (by omega) (by omega))]
      unfold fX11_chorus_b20
      rw [bnd_t (x_dripBits D (by omega) (by omega) (by decide))]
      dsimp only
      rw [show h + (k + 1) - 1 = h + k by omega, bnd_t (show fJ6_bitCount_0f7a4 1000 (bX n0 w SX (h + k)) SX = some (v k, SX) by rw [hv]; exact x_bitsD h8)]
      show (if v k ≤ (chR v k).2 then _ else _) = _
      by_cases h1 : v k ≤ (chR v k).2
      · rw [if_pos h1, if_pos h1]
        unfold fX11_chorus_b43
        rw [nI_1]
      · rw [if_neg h1, if_neg h1]
        unfold fX11_chorus_b37 fX11_chorus_b43
        rw [nI_1]
  · have e : fX12_chorus 1000 (nI c) SM = fX12_chorus_h39 1000 1000 (nI c) (-1) (-1) 1 S2 := by
      rw [hF, hx]
      show fX12_chorus_b23 1000 (nI c) S1 = _
      unfold fX12_chorus_b23
      rw [bnd_t p1]
    show Gv (fX12_chorus 1000 (nI c) SM) _
    rw [e, ← hS1]
    refine loopG (A := gS) (fun f k S => fX12_chorus_h39 1000 f (nI c) (chR v k).1 (chR v k).2 (nI (k + 1)) S) (fun k S => oSame mHr S2 S ∧ S 99 37 = nI (h + k)) _ c ?_ ?_ c 0 S2 1000 (by omega) ⟨oSame.rf, D2.2.2.2.2.2.1.2.2⟩ (by omega)
    · rintro f S ⟨i1, i2⟩
      obtain ⟨S4, u1, u2, u3⟩ := E S i1
      refine ⟨((chR v c).1, S4), ?_, rfl, u2, u3⟩
      show fX12_chorus_b39 1000 _ (nI c) _ _ (nI (c + 1)) S = _
      unfold fX12_chorus_b39
      rw [if_pos (nI_lt (by omega) (by omega))]
      unfold fX12_chorus_b86
      rw [bnd_t u1]
    · rintro f k S hk ⟨i1, i2⟩
      refine Or.inr ⟨sU S 99 37 (nI (h + (k + 1))), ⟨i1.up rfl, sU_s⟩, ?_⟩
      show fX12_chorus_b39 1000 (fX12_chorus_h39 1000 f) (nI c) _ _ (nI (k + 1)) S = fX12_chorus_h39 1000 f (nI c) (if v k ≤ (chR v k).2 then chR v k else (nI (k + 1), v k)).1 (if v k ≤ (chR v k).2 then chR v k else (nI (k + 1), v k)).2 (nI (k + 1 + 1)) (sU S 99 37 (nI (h + (k + 1))))
      unfold fX12_chorus_b39
      rw [if_neg (nI_nlt (by omega) (by omega))]
      unfold fX12_chorus_b45
      rw [bnd_t (m_dripAt D2 i1 i2 (by omega) (by decide))]
      dsimp only
      rw [bnd_t (show fX12_bitsOf 1000 (bX n0 w SX (h + k)) S = some (v k, S) by rw [hv]; exact m_bitsD h8 (by decide))]
      show (if v k ≤ (chR v k).2 then fX12_chorus_b63 1000 (fX12_chorus_h39 1000 f) (nI c) (chR v k).1 (chR v k).2 (nI (k + 1)) (v k) S else fX12_chorus_b60 1000 (fX12_chorus_h39 1000 f) (nI c) (chR v k).2 (nI (k + 1)) (v k) S) = _
      by_cases h1 : v k ≤ (chR v k).2
      · rw [if_pos h1, if_pos h1]
        unfold fX12_chorus_b63
        dsimp only [lt]
        rw [if_neg (Int32.not_lt.mpr h1), i2, nI_1, nI_1]
        rfl
      · rw [if_neg h1, if_neg h1]
        unfold fX12_chorus_b60 fX12_chorus_b63
        dsimp only [lt]
        rw [if_pos (Int32.not_le.mp h1), i2, nI_1, nI_1]
        rfl
/-! see -/
theorem st_see : Lw_see JJ := by
  intro SX SM x1 x2 x3 hJ
  obtain ⟨S1, Z, h, qs, hS1, c0, hJ1, Zk, h9, C, M, K, w41, x0, x5⟩ := pre hJ
  have z6 := Zk.2.1.2
  have hF : fX12_see 5000 x1 x2 x3 SM = if iv (inb x1 (tn1 Z)) = 0 then fX12_see_b13 5000 S1 else fX12_see_b19 5000 x1 x2 x3 S1 := by
    unfold fX12_see fX12_see_b0
    dsimp only [lt]
    rw [← hS1, bnd_t (m_isGuild M.1.2.1 (by omega))]
  cases h1 : inb x1 (tn1 Z) with
  | false =>
    refine stFl 5000 5000 1 hJ one_ne (Or.inr rfl) (ngF x5 (by omega) h1) ?_
    show fX12_see 5000 x1 x2 x3 SM = _
    rw [hF, h1, ← hS1]
    rfl
  | true =>
  obtain ⟨g, hg, rfl⟩ := inb_of h1 (by omega)
  obtain ⟨n0, n1, hT, hN, hI, hP, hM⟩ := id hJ1
  obtain ⟨s, A, ⟨q, g1, g2, g3, g4⟩, t⟩ := hN
  have g2 : SX 28 3 = nI q := g2
  have hX : fX11_see 5000 (nI g) x2 x3 SX = if iv (wth x2 0 20) = 0 then fX11_see_b38 5000 (nI g) x2 x3 SX else if iv (wth x3 0 99) = 0 then fX11_see_b38 5000 (nI g) x2 x3 SX else fX11_see_b34 5000 (nI g) x2 x3 SX := by
    refine (ngT x5 (by omega) h1).trans ?_
    dsimp only
    rw [bnd_t x_isWithin]
    unfold fX11_see_b24
    rw [bnd_t x_isWithin]
  have hMM : fX12_see 5000 (nI g) x2 x3 SM = if nI q = 8 then fX12_see_b52 5000 S1 else if iv (wth x2 0 20) = 0 then fX12_see_b52 5000 S1 else if iv (wth x3 0 99) = 0 then fX12_see_b52 5000 S1 else fX12_see_b58 5000 (nI g) x2 x3 S1 := by
    rw [hF, h1]
    show fX12_see_b19 5000 (nI g) x2 x3 S1 = _
    unfold fX12_see_b19
    rw [g3]
    unfold fX12_see_b28
    rw [bnd_t in_0_20]
    unfold fX12_see_b40
    rw [bnd_t in_0_99]
  have ref : fX11_see 5000 (nI g) x2 x3 SX = fX11_see_b56 5000 SX → fX12_see 5000 (nI g) x2 x3 SM = fX12_see_b52 5000 S1 → StpT JJ lcA okA (fun N => fX11_see N (nI g) x2 x3 SX) (fun M => fX12_see M (nI g) x2 x3 SM) := by
    intro a b
    refine stp_ok (SX := SX) (SM := SM) (v := -1) 5000 5000 (hJ1.refuse (k := 2) (by decide)) rfl (Or.inl rfl) ?_ ?_ ?_
    · show fX11_see 5000 (nI g) x2 x3 SX = _
      rw [a]
      unfold fX11_see_b56
      rw [bnd_t (show fX1_refuse 5000 20 2 SX = _ from x_refuse (k := 2) (by decide))]
    · show fX12_see 5000 (nI g) x2 x3 SM = _
      rw [b]
      unfold fX12_see_b52
      rw [bnd_t (show fX12_refuse 5000 2 S1 = _ from m_refuse (k := 2) (by decide))]
    · rw [sU_n (by omega)]; exact c0
  cases h2 : wth x2 0 20 with
  | false =>
    refine ref ?_ ?_
    · rw [hX, h2]; rfl
    · rw [hMM, h2]
      by_cases h8 : nI q = 8
      · rw [if_pos h8]
      · rw [if_neg h8]; rfl
  | true =>
  cases h3 : wth x3 0 99 with
  | false =>
    refine ref ?_ ?_
    · rw [hX, h2, h3]; rfl
    · rw [hMM, h2, h3]
      by_cases h8 : nI q = 8
      · rw [if_pos h8]
      · rw [if_neg h8]; rfl
  | true =>
  have hX2 : fX11_see 5000 (nI g) x2 x3 SX = if nI q < 8 then fX11_see_b65 5000 (nI g) x2 x3 SX else fX11_see_b56 5000 SX := by
    rw [hX, h2, h3]
    show fX11_see_b46 5000 (nI g) x2 x3 SX = _
    unfold fX11_see_b46
    rw [g2]
  by_cases h8 : q = 8
  · subst h8
    refine ref ?_ ?_
    · rw [hX2, if_neg (by decide)]
    · rw [hMM, if_pos (show nI 8 = 8 from rfl)]
  · have hq8 : q < 8 := by omega
    obtain ⟨y, -, y2, rfl⟩ := wth_of (a := 0) (b := 20) (by decide) (by decide) h2
    obtain ⟨u, -, u2, rfl⟩ := wth_of (a := 0) (b := 99) (by decide) (by decide) h3
    have hqc : (nI q).toNatClampNeg = q := nI_clamp (by omega)
    have hin : inb (nI q) 8 = true := inb_t hq8 (by decide)
    obtain ⟨X3, e3⟩ : ∃ z, z = sU (sU (sU (sU SX 29 q (nI g)) 30 q (nI y)) 31 q (nI u)) 28 3 (nI (q + 1)) := ⟨_, rfl⟩
    obtain ⟨M3, f3⟩ : ∃ z, z = sU (sU (sU (sU S1 48 q (nI g)) 49 q (nI y)) 50 q (nI u)) 99 40 (nI (q + 1)) := ⟨_, rfl⟩
    have xs : ∀ i j, ¬ (i = 28 ∧ j = 3) → ¬ (29 ≤ i ∧ i ≤ 31 ∧ j = q) → X3 i j = SX i j := fun i j a b => by rw [e3, sU_n (by omega), sU_n (by omega), sU_n (by omega), sU_n (by omega)]
    have ms : ∀ i j, ¬ (i = 99 ∧ j = 40) → ¬ (48 ≤ i ∧ i ≤ 50 ∧ j = q) → M3 i j = S1 i j := fun i j a b => by rw [f3, sU_n (by omega), sU_n (by omega), sU_n (by omega), sU_n (by omega)]
    have x28 : X3 28 3 = nI (q + 1) := by rw [e3, sU_s]
    have m40 : M3 99 40 = nI (q + 1) := by rw [f3, sU_s]
    refine stp_ok (SX := SX) (SM := SM) (SX' := X3) (SM' := M3) (v := nI (q + 1)) 5000 5000 ?_ rfl (Or.inl rfl) ?_ ?_ ?_
    · refine hJ1.act (fun i j hij => xs i j (fun q => by rw [xAct_t (by omega)] at hij; cases hij) (fun q => by rw [xAct_t (by omega)] at hij; cases hij)) (fun i j hij => ms i j (fun q => by rw [mAct_t (by omega)] at hij; cases hij) (fun q => by rw [mAct_t (by omega)] at hij; cases hij)) (fun n0 n1 hT hN hI => ⟨?_, hI.on (xs _ _ (by omega) (by omega)) (fun i j h1 h2 => xs _ _ (by omega) (by omega)) (fun i j h1 h2 => ms _ _ (by omega) (by omega)) (ms _ _ (by omega) (by omega)) (ms _ _ (by omega) (by omega)) (ms _ _ (by omega) (by omega))⟩)
      have e1 : n1 = tn1 Z := by
        obtain ⟨-, ⟨b1, -, b3⟩, -⟩ := hT
        exact (nI_eq (by omega) (by omega)).mp (b1.symm.trans x5)
      obtain ⟨s, ⟨a, f1, f2, f3', f4⟩, ⟨q', k1, k2, k3, k4⟩, t⟩ := hN
      have eq : q' = q := (nI_eq (by omega) (by omega)).mp (k2.symm.trans g2)
      subst eq
      refine ⟨s.on (fun c g _ hc => xs _ _ (by omega) (by omega)) (fun c g h1 hc => ?_), ⟨a, f1, ?_, ?_, fun i hi => (f4 i hi).on (fun c g _ _ => ?_) (fun c g _ _ => ?_)⟩, ⟨q' + 1, by omega, x28, m40, fun i hi => ?_⟩, fun i hi => ?_⟩
      · unfold mSt
        by_cases h0 : c = 0
        · rw [if_pos h0, if_pos h0, ms _ _ (by have := h1 h0; omega) (by omega)]
        · rw [if_neg h0, if_neg h0, ms _ _ (by omega) (by omega)]
      · rw [xs (20 + 6) 1 (by omega) (by omega)]; exact f2
      · rw [ms 99 39 (by omega) (by omega)]; exact f3'
      · unfold xAc
        rw [show X3 (20 + 7) = SX (20 + 7) from funext fun j => xs _ j (by omega) (by omega)]
      · unfold mAc
        rw [show M3 36 = S1 36 from funext fun j => ms _ j (by omega) (by omega)]
      · by_cases hi2 : i = q'
        · subst hi2
          refine ⟨⟨g, by omega, ?_, ?_⟩, ⟨y, y2, ?_, ?_⟩, ⟨u, u2, ?_, ?_⟩⟩
          · show X3 29 i = _
            rw [e3, sU_n (by omega), sU_n (by omega), sU_n (by omega), sU_s]
          · rw [f3, sU_n (by omega), sU_n (by omega), sU_n (by omega), sU_s]
          · show X3 30 i = _
            rw [e3, sU_n (by omega), sU_n (by omega), sU_s]
          · rw [f3, sU_n (by omega), sU_n (by omega), sU_s]
          · show X3 31 i = _
            rw [e3, sU_n (by omega), sU_s]
          · rw [f3, sU_n (by omega), sU_s]
        · rw [xs (20 + 9) i (by omega) (by omega), xs (20 + 10) i (by omega) (by omega), xs (20 + 11) i (by omega) (by omega), ms 48 i (by omega) (by omega), ms 49 i (by omega) (by omega), ms 50 i (by omega) (by omega)]
          exact k4 i (by omega)
      · rw [xs (20 + 12) i (by omega) (by omega), ms 17 i (by omega) (by omega)]
        exact t i hi
    · show fX11_see 5000 (nI g) (nI y) (nI u) SX = _
      rw [hX2, if_pos (show nI q < 8 from nI_lt (b := 8) hq8 (by decide))]
      unfold fX11_see_b65
      have he : fX5_add 5000 28 (nI g) (nI y) (nI u) SX = some (0, X3) := by
        unfold fX5_add fX5_add_b0
        rw [g2, if_neg (show ¬ (8 : Int32) ≤ nI q from nI_ge (b := 8) hq8 (by decide))]
        unfold fX5_add_b9
        dsimp only [lt]
        rw [g2, hqc, chk_t hin, show sU SX (28 + 1) q (nI g) 28 3 = nI q by rw [sU_n (by omega)]; exact g2, hqc, chk_t hin, show sU (sU SX (28 + 1) q (nI g)) (28 + 2) q (nI y) 28 3 = nI q by rw [sU_n (by omega), sU_n (by omega)]; exact g2, hqc, chk_t hin, show sU (sU (sU SX (28 + 1) q (nI g)) (28 + 2) q (nI y)) (28 + 3) q (nI u) 28 3 = nI q by rw [sU_n (by omega), sU_n (by omega), sU_n (by omega)]; exact g2, nI_1]
        show some (0, sU (sU (sU (sU SX 29 q (nI g)) 30 q (nI y)) 31 q (nI u)) 28 3 (nI (q + 1))) = _
        rw [← e3]
      rw [bnd_t he]
      show some (0, X3 28 3, X3) = _
      rw [x28]
    · show fX12_see 5000 (nI g) (nI y) (nI u) SM = _
      rw [hMM, if_neg (show ¬ nI q = 8 from fun z => h8 ((nI_eq (b := 8) (by omega) (by omega)).mp z)), h2, h3]
      show fX12_see_b58 5000 (nI g) (nI y) (nI u) S1 = _
      unfold fX12_see_b58
      dsimp only [lt]
      rw [g3, hqc, chk_t hin, show sU S1 48 q (nI g) 99 40 = nI q by rw [sU_n (by omega)]; exact g3, hqc, chk_t hin, show sU (sU S1 48 q (nI g)) 49 q (nI y) 99 40 = nI q by rw [sU_n (by omega), sU_n (by omega)]; exact g3, hqc, chk_t hin, show sU (sU (sU S1 48 q (nI g)) 49 q (nI y)) 50 q (nI u) 99 40 = nI q by rw [sU_n (by omega), sU_n (by omega), sU_n (by omega)]; exact g3, nI_1, ← f3, m40]
    · rw [ms 99 4 (by omega) (by omega)]; exact c0
end

/-! part 60.adrought -/
section
/-! loops of both sides at once; drought -/
theorem loop2 {A B R R' : Type} (H : Nat → Nat → A → Option R) (H' : Nat → Nat → B → Option R') (I : Nat → A → B → Prop) (Q : R → R' → Prop) (n : Nat) (he : ∀ f f' a b, I n a b → ∃ r r', H (f + 1) n a = some r ∧ H' (f' + 1) n b = some r' ∧ Q r r') (hs : ∀ f f' k a b, k < n → I k a b → ∃ a' b', I (k + 1) a' b' ∧ H (f + 1) k a = H f (k + 1) a' ∧ H' (f' + 1) k b = H' f' (k + 1) b') : ∀ (m k : Nat) (a : A) (b : B) (fuel fuel' : Nat), k + m = n → I k a b → m < fuel → m < fuel' → ∃ r r', H fuel k a = some r ∧ H' fuel' k b = some r' ∧ Q r r' := by
  intro m
  induction m with
  | zero =>
    intro k a b fuel fuel' h1 h2 h3 h4
    obtain ⟨f, rfl⟩ : ∃ f, fuel = f + 1 := ⟨fuel - 1, by omega⟩
    obtain ⟨f', rfl⟩ : ∃ f, fuel' = f + 1 := ⟨fuel' - 1, by omega⟩
    have : k = n := by omega
    subst this
    exact he f f' a b h2
  | succ m ih =>
    intro k a b fuel fuel' h1 h2 h3 h4
    obtain ⟨f, rfl⟩ : ∃ f, fuel = f + 1 := ⟨fuel - 1, by omega⟩
    obtain ⟨f', rfl⟩ : ∃ f, fuel' = f + 1 := ⟨fuel' - 1, by omega⟩
    obtain ⟨a', b', h5, h6, h7⟩ := hs f f' k a b (by omega) h2
    rw [h6, h7]
    exact ih (k + 1) a' b' f f' (by omega) h5 (by omega) (by omega)
noncomputable def dwf (st : Int32) (h : Nat) : Nat → Int32 := fun j => if bt st (nI (j - h)) = true then 0 else 9
noncomputable def wtR (st tn : Int32) : Nat → Int32
  | 0 => 1
  | k + 1 => wtR st tn k * (if bt st (nI k) = true then tn else 10 - tn)
def mSam1 (S S' : gS) : Prop := ∀ i j, mScr i j = false → ¬ (i = 99 ∧ j = 41) → S' i j = S i j
theorem mSit.on1 {Z S S' : gS} {h : Nat} {d : Int32} {e : Nat → Int32} {qs : Nat → qT} (M : mSit Z S h d e qs) (s : mSam1 S S') : mSit Z S' h d e qs := by
  obtain ⟨m1, m2, m3, m4, m5⟩ := M
  refine ⟨m1.on (fun i j h1 h2 => s i j ?_ (by omega)), fun g hg => by rw [s 18 g rfl (by omega)]; exact m2 g hg, by rw [s 99 37 rfl (by omega)]; exact m3, by rw [s 99 38 rfl (by omega)]; exact m4, fun g hg => ?_⟩
  · rcases (show i = 5 ∨ i = 6 ∨ i = 7 ∨ i = 8 ∨ i = 9 ∨ i = 10 ∨ i = 11 ∨ i = 12 ∨ i = 13 ∨ i = 14 ∨ i = 15 ∨ i = 16 by omega) with rfl | rfl | rfl | rfl | rfl | rfl | rfl | rfl | rfl | rfl | rfl | rfl <;> rfl
  · rw [s 32 g rfl (by omega), s 33 g rfl (by omega), s 34 g rfl (by omega), s 35 g rfl (by omega)]
    exact m5 g hg
theorem mSit.up41 {Z S : gS} {h : Nat} {d x : Int32} {e : Nat → Int32} {qs : Nat → qT} (M : mSit Z S h d e qs) : mSit Z (sU S 99 41 x) h d e qs := M.on1 (fun i j _ h => sU_n h)
/-- what the HOURS under a told WET change -/
noncomputable def mD (i j : Nat) : Bool := mHo i j || (i == 99 && j == 41)
theorem mD_ho {S S' : gS} (s : oSame mHo S S') : oSame mD S S' := fun i j h => s i j (by
  unfold mD at h
  rw [Bool.or_eq_false_iff] at h
  exact h.1)
theorem mD_back {S1 S S4 : gS} (s : mSam1 S1 S) {S' : gS} (sd : oSame mD S S') (u : ∀ i j, S4 i j = if mPk i j = true then S1 i j else S' i j) : mSam1 S1 S4 := by
  intro i j h1 h2
  rw [u i j]
  by_cases hp : mPk i j = true
  · rw [if_pos hp]
  · rw [if_neg hp]
    have hd : mD i j = false := by
      cases hh : mD i j with
      | false => rfl
      | true =>
        exfalso
        unfold mD at hh
        rw [Bool.or_eq_true] at hh
        rcases hh with hh | hh
        · have h3 := fun q => hp (mPk_t.mpr q)
          unfold mHo at hh
          simp only [Bool.or_eq_true, Bool.and_eq_true, beq_iff_eq, decide_eq_true_iff] at hh
          rcases hh with ((rfl | rfl) | h4) | ⟨rfl, (rfl | rfl) | rfl⟩
          · cases h1
          · cases h1
          · exact h3 (Or.inl ⟨h4.1.1, h4.1.2, h4.2⟩)
          · exact h3 (Or.inr ⟨rfl, Or.inl rfl⟩)
          · cases h1
          · cases h1
        · rw [Bool.and_eq_true, beq_iff_eq, beq_iff_eq] at hh
          exact h2 hh
    rw [sd i j hd, s i j h1 h2]
theorem m_drought_h {Z S : gS} {h n g : Nat} {d st tn lk x5 : Int32} {e : Nat → Int32} {qs : Nat → qT} {r : Int32 → Int32 → Int32 → Int32 → Int32 → Int32 → gS → Option (Int32 × gS)} (Zk : tOK Z) (K : qsH Z qs) (h9 : h ≤ 999) (hn : n ≤ 5) (hg : g < tn1 Z) (M : mSit Z S h d e qs) : ∃ S', fX12_drought_h86 5000 r 5000 (nI g) (nI n) tn lk x5 st 1 0 S = bnd (fX12_unpack 5000 46 0 S') (fun q1 => r (nI g) (nI n) tn (if (trj Z (e g) d (dwf st h) h (qs g) n).2.2.1 ≤ x5 then lk else lk + wtR st tn n) x5 (st + 1) q1.2) ∧ oSame mD S S' := by
  have z6 := Zk.2.1.2
  suffices L : ∀ (m k fuel : Nat) (S1 : gS), k + m = n → m < fuel → mSit Z S1 (h + k) d e (fun g => trj Z (e g) d (dwf st h) h (qs g) k) → oSame mD S S1 → ∃ S', fX12_drought_h86 5000 r fuel (nI g) (nI n) tn lk x5 st (wtR st tn k) (nI k) S1 = bnd (fX12_unpack 5000 46 0 S') (fun q1 => r (nI g) (nI n) tn (if (trj Z (e g) d (dwf st h) h (qs g) n).2.2.1 ≤ x5 then lk else lk + wtR st tn n) x5 (st + 1) q1.2) ∧ oSame mD S S' from L n 0 5000 S (by omega) (by omega) M oSame.rf
  intro m
  induction m with
  | zero =>
    intro k fuel S1 h1 h2 M1 s
    obtain ⟨f, rfl⟩ : ∃ f, fuel = f + 1 := ⟨fuel - 1, by omega⟩
    have : k = n := by omega
    subst this
    refine ⟨S1, ?_, s⟩
    show fX12_drought_b86 5000 r _ (nI g) (nI k) tn lk x5 st _ (nI k) S1 = _
    unfold fX12_drought_b86
    rw [if_pos (nI_le (Nat.le_refl _) (by omega))]
    unfold fX12_drought_b145
    rw [chk_t (inb_t (by omega) (by decide)), nI_clamp (by omega), (M1.2.2.2.2 g hg).2.2.1]
    by_cases hl : (trj Z (e g) d (dwf st h) h (qs g) k).2.2.1 ≤ x5
    · rw [if_pos hl, if_pos hl]
      unfold fX12_drought_b163 fX12_drought_b164
      rw [Int32.add_zero]
    · rw [if_neg hl, if_neg hl]
      rfl
  | succ m ih =>
    intro k fuel S1 h1 h2 M1 s
    obtain ⟨f, rfl⟩ : ∃ f, fuel = f + 1 := ⟨fuel - 1, by omega⟩
    have ed : dwf st h (h + k) = if bt st (nI k) = true then 0 else 9 := by
      unfold dwf
      rw [show h + k - h = k by omega]
    have hw : ¬ dwf st h (h + k) = -1 ∧ 0 ≤ dwf st h (h + k) := by
      rw [ed]
      cases bt st (nI k) <;> decide
    obtain ⟨S2, r1, r2, -, r4⟩ := m_step (N := 5000) (we := dwf st h (h + k)) Zk (K.tr (wf := dwf st h) (h := h) (d := d) (e := e) k) (by omega) (by decide) (M1.up41 (x := dwf st h (h + k))) (Or.inl ⟨sU_s, hw.1⟩) hw.2
    have s2 : oSame mD S S2 := (s.up rfl).tr (mD_ho r4)
    obtain ⟨S', e1, e2⟩ := ih (k + 1) f S2 (by omega) (by omega) r2 s2
    refine ⟨S', ?_, e2⟩
    rw [← e1]
    show fX12_drought_b86 5000 r (fX12_drought_h86 5000 r f) (nI g) (nI n) tn lk x5 st _ (nI k) S1 = fX12_drought_h86 5000 r f (nI g) (nI n) tn lk x5 st (wtR st tn k * (if bt st (nI k) = true then tn else 10 - tn)) (nI (k + 1)) S2
    rw [ed] at r1
    unfold fX12_drought_b86
    rw [if_neg (nI_ge (by omega) (by omega))]
    unfold fX12_drought_b92
    rw [bnd_t m_isOf]
    cases hb : bt st (nI k) with
    | false =>
      rw [hb, if_neg (by decide)] at r1
      show fX12_drought_b109 5000 r (fX12_drought_h86 5000 r f) (nI g) (nI n) tn lk x5 st (wtR st tn k) (nI k) 9 S1 = _
      unfold fX12_drought_b109
      dsimp only [lt]
      rw [bnd_t m_isOf, hb]
      show fX12_drought_b132 5000 r (fX12_drought_h86 5000 r f) (nI g) (nI n) tn lk x5 st (nI k) (wtR st tn k) (10 - tn) (sU S1 99 41 9) = _
      unfold fX12_drought_b132
      rw [bnd_t r1, nI_1]
      rfl
    | true =>
      rw [hb, if_pos rfl] at r1
      show fX12_drought_b109 5000 r (fX12_drought_h86 5000 r f) (nI g) (nI n) tn lk x5 st (wtR st tn k) (nI k) 0 S1 = _
      unfold fX12_drought_b109
      dsimp only [lt]
      rw [bnd_t m_isOf, hb]
      show fX12_drought_b132 5000 r (fX12_drought_h86 5000 r f) (nI g) (nI n) tn lk x5 st (nI k) (wtR st tn k) tn (sU S1 99 41 0) = _
      unfold fX12_drought_b132
      rw [bnd_t r1, nI_1]
      rfl
theorem shl_pow : ∀ n, n < 31 → (1 : Int32) <<< (nI n &&& 31) = nI (2 ^ n) := by decide +kernel
end

/-! part 60.bdrought -/
section
/-! drought where its answers are left out: both sides go through, and J holds again -/
theorem x_drought_h {Z SX S : gS} {h n g : Nat} {d st tn lk : Int32} {q : qT} {r : Int32 → Int32 → Int32 → Int32 → Int32 → gS → Option tR} (Zk : tOK Z) (hx : tXz (xtw SX) Z SX) (h9 : h ≤ 999) (hn : n ≤ 5) (hg : g < 6) (hq : qOK (tn0 Z) q) (he : eOK (Z 5 g)) (W : wkA S (Z 5 g) d (nI h) q) (s : oSame xWk SX S) : ∃ (lk' : Int32) (S' : gS), fX11_drought_h60 5000 r 5000 (nI g) (nI n) tn lk st 1 0 0 S = r (nI g) (nI n) tn lk' (st + 1) S' ∧ oSame xWk SX S' := by
  suffices L : ∀ (m k fuel : Nat) (S : gS) (w sl : Int32), k + m = n → m < fuel → wkA S (Z 5 g) d (nI (h + k)) (trj Z (Z 5 g) d (dwf st h) h q k) → oSame xWk SX S → ∃ (lk' : Int32) (S' : gS), fX11_drought_h60 5000 r fuel (nI g) (nI n) tn lk st w sl (nI k) S = r (nI g) (nI n) tn lk' (st + 1) S' ∧ oSame xWk SX S' from L n 0 5000 S 1 0 (by omega) (by omega) W s
  intro m
  induction m with
  | zero =>
    intro k fuel S w sl h1 h2 W s
    obtain ⟨f, rfl⟩ : ∃ f, fuel = f + 1 := ⟨fuel - 1, by omega⟩
    have : k = n := by omega
    subst this
    by_cases hs : sl = 0
    · refine ⟨lk, S, ?_, s⟩
      show fX11_drought_b60 5000 r _ (nI g) (nI k) tn lk st w sl (nI k) S = _
      unfold fX11_drought_b60
      rw [if_pos (nI_le (Nat.le_refl _) (by omega))]
      unfold fX11_drought_b127
      rw [if_pos hs]
      rfl
    · refine ⟨lk + w, S, ?_, s⟩
      show fX11_drought_b60 5000 r _ (nI g) (nI k) tn lk st w sl (nI k) S = _
      unfold fX11_drought_b60
      rw [if_pos (nI_le (Nat.le_refl _) (by omega))]
      unfold fX11_drought_b127
      rw [if_neg hs]
      rfl
  | succ m ih =>
    intro k fuel S w sl h1 h2 W s
    obtain ⟨f, rfl⟩ : ∃ f, fuel = f + 1 := ⟨fuel - 1, by omega⟩
    have hT : tXz (xtw SX) Z S := hx.on xtw_cases s
    obtain ⟨S2, r1, r2, r3⟩ := x_passHour (N := 5000) (we := dwf st h (h + k)) xtw_cases Zk hT (trj_ok hq he k) he W (by decide)
    rw [nI_1] at r2
    have ed : dwf st h (h + k) = if bt st (nI k) = true then 0 else 9 := by
      unfold dwf
      rw [show h + k - h = k by omega]
    rw [ed] at r1
    obtain ⟨B, r1⟩ : ∃ B, fX10_passHour 5000 (xtw SX) (if bt st (nI k) = true then 0 else 9) S = some (iv B, S2) := ⟨_, r1⟩
    have key : ∃ w' sl' : Int32, fX11_drought_h60 5000 r (f + 1) (nI g) (nI n) tn lk st w sl (nI k) S = fX11_drought_h60 5000 r f (nI g) (nI n) tn lk st w' sl' (nI (k + 1)) S2 := by
      cases hb : bt st (nI k) with
      | false =>
        rw [hb, if_neg (by decide)] at r1
        refine ⟨w * (10 - tn), if iv B = 0 then sl else 1, ?_⟩
        show fX11_drought_b60 5000 r (fX11_drought_h60 5000 r f) (nI g) (nI n) tn lk st w sl (nI k) S = _
        unfold fX11_drought_b60
        rw [if_neg (nI_ge (by omega) (by omega))]
        unfold fX11_drought_b66
        rw [bnd_t x_isOneOf, hb]
        show fX11_drought_b112 5000 r (fX11_drought_h60 5000 r f) (nI g) (nI n) tn lk st (w * (10 - tn)) sl (nI k) (xtw S) 9 S = _
        unfold fX11_drought_b112
        rw [xWk.tw s, bnd_t r1]
        dsimp only
        by_cases hz : iv B = 0
        · rw [if_pos hz, if_pos hz]
          unfold fX11_drought_b121
          rw [nI_1]
        · rw [if_neg hz, if_neg hz]
          unfold fX11_drought_b118 fX11_drought_b121
          rw [nI_1]
      | true =>
        rw [hb, if_pos rfl] at r1
        refine ⟨w * tn, if iv B = 0 then sl else 1, ?_⟩
        show fX11_drought_b60 5000 r (fX11_drought_h60 5000 r f) (nI g) (nI n) tn lk st w sl (nI k) S = _
        unfold fX11_drought_b60
        rw [if_neg (nI_ge (by omega) (by omega))]
        unfold fX11_drought_b66
        rw [bnd_t x_isOneOf, hb]
        show fX11_drought_b112 5000 r (fX11_drought_h60 5000 r f) (nI g) (nI n) tn lk st (w * tn) sl (nI k) (xtw S) 0 S = _
        unfold fX11_drought_b112
        rw [xWk.tw s, bnd_t r1]
        dsimp only
        by_cases hz : iv B = 0
        · rw [if_pos hz, if_pos hz]
          unfold fX11_drought_b121
          rw [nI_1]
        · rw [if_neg hz, if_neg hz]
          unfold fX11_drought_b118 fX11_drought_b121
          rw [nI_1]
    obtain ⟨w', sl', e0⟩ := key
    obtain ⟨lk', S', e1, e2⟩ := ih (k + 1) f S2 w' sl' (by omega) (by omega) r2 (s.tr r3)
    exact ⟨lk', S', e0.trans e1, e2⟩
theorem stU {co : Nat → Int32} {ok : Nat → Prop} {FX : Nat → Option tR} {FM : Nat → Option (Int32 × gS)} (h : StpT JJ co ok FX FM) : StpU JJ co ok FX FM := by
  obtain ⟨N, ox, M, om, h1, h2, h3, h4, -, h6⟩ := h
  exact ⟨N, ox, M, om, h1, h2, h3, h4, h6⟩
theorem stSuU {co : Nat → Int32} {ok : Nat → Prop} {SX SM : gS} {FX : Nat → Option tR} {FM : Nat → Option (Int32 × gS)} (N M : Nat) (hJ : JJ SX SM) (hco : co 0 = 0) (hok : ok 0) (h1 : Gv (FX N) (fun r => r.1 = 0 ∧ xSame SX r.2.2)) (h2 : Gv (FM M) (fun r => mSame (sU SM 99 4 0) r.2 ∧ r.2 99 4 = 0)) : StpU JJ co ok FX FM := by
  obtain ⟨⟨t, w, SX'⟩, a1, a2, a4⟩ := h1
  obtain ⟨⟨u, SM'⟩, b1, b3, b4⟩ := h2
  dsimp only at a2 a4 b3 b4
  subst a2
  exact ⟨N, _, M, _, a1, b1, hok, b4.trans hco.symm, hJ.same a4 ((code_same SM 0).tr b3)⟩
theorem st_drought : Lw_drought JJ := by
  intro SX SM x1 x2 x3 hJ
  obtain ⟨S1, Z, h, qs, hS1, c0, hJ1, Zk, h9, C, M, K, w41, x0, x5⟩ := pre hJ
  have z6 := Zk.2.1.2
  have hF : fX12_drought 5000 x1 x2 x3 SM = if iv (inb x1 (tn1 Z)) = 0 then fX12_drought_b13 5000 S1 else fX12_drought_b19 5000 x1 x2 x3 S1 := by
    unfold fX12_drought fX12_drought_b0
    dsimp only [lt]
    rw [← hS1, bnd_t (m_isGuild M.1.2.1 (by omega))]
  have hG : fX12_drought_b19 5000 x1 x2 x3 S1 = if iv (wth x2 1 5) = 0 then fX12_drought_b43 5000 S1 else if iv (wth x3 0 10) = 0 then fX12_drought_b43 5000 S1 else fX12_drought_b49 5000 x1 x2 x3 S1 := by
    unfold fX12_drought_b19
    rw [bnd_t in_1_5]
    unfold fX12_drought_b31
    rw [bnd_t in_0_10]
  cases h1 : inb x1 (tn1 Z) with
  | false =>
    refine stU (stFl 5000 5000 1 hJ one_ne (Or.inr (Or.inl rfl)) (ngF x5 (by omega) h1) ?_)
    show fX12_drought 5000 x1 x2 x3 SM = _
    rw [hF, h1, ← hS1]
    rfl
  | true =>
  cases h2 : wth x2 1 5 with
  | false =>
    refine stU (stFl 5000 5000 2 hJ two_ne (Or.inr (Or.inr rfl)) ((ngT x5 (by omega) h1).trans (niF h2)) ?_)
    show fX12_drought 5000 x1 x2 x3 SM = _
    rw [hF, h1, ← hS1]
    show fX12_drought_b19 5000 x1 x2 x3 S1 = _
    rw [hG, h2]
    rfl
  | true =>
  cases h3 : wth x3 0 10 with
  | false =>
    refine stU (stFl 5000 5000 2 hJ two_ne (Or.inr (Or.inr rfl)) (((ngT x5 (by omega) h1).trans (niT h2)).trans (niF h3)) ?_)
    show fX12_drought 5000 x1 x2 x3 SM = _
    rw [hF, h1, ← hS1]
    show fX12_drought_b19 5000 x1 x2 x3 S1 = _
    rw [hG, h2, h3]
    rfl
  | true =>
  obtain ⟨g, hg, rfl⟩ := inb_of h1 (by omega)
  obtain ⟨n, n1, n2, rfl⟩ := wth_of (a := 1) (b := 5) (by decide) (by decide) h2
  have hgc : (nI g).toNatClampNeg = g := nI_clamp (by omega)
  have hin : inb (nI g) 6 = true := inb_t (by omega) (by decide)
  obtain ⟨S2, k1, k2, k3⟩ := q_pk (N := 5000) (S1 := S1) (nd := 46) (Or.inl rfl) (by decide)
  have hX : fX11_drought 5000 (nI g) (nI n) x3 SX = fX11_drought_h24 5000 5000 (nI g) (nI n) x3 0 0 SX := ((ngT x5 (by omega) h1).trans (niT h2)).trans (niT h3)
  have hM : fX12_drought 5000 (nI g) (nI n) x3 SM = fX12_drought_h72 5000 5000 (nI g) (nI n) x3 0 (qs g).2.2.1 0 S2 := by
    rw [hF, h1]
    show fX12_drought_b19 5000 (nI g) (nI n) x3 S1 = _
    rw [hG, h2, h3]
    show fX12_drought_b49 5000 (nI g) (nI n) x3 S1 = _
    unfold fX12_drought_b49
    rw [chk_t hin, bnd_t k1, hgc, (M.2.2.2.2 g hg).2.2.1]
  have p32 : 2 ^ n ≤ 32 := by
    rcases (show n = 1 ∨ n = 2 ∨ n = 3 ∨ n = 4 ∨ n = 5 by omega) with rfl | rfl | rfl | rfl | rfl <;> decide
  have hsh := shl_pow n (by omega)
  obtain ⟨rx, rm, a1, a2, a3⟩ := loop2 (A := Int32 × gS) (B := Int32 × gS) (fun f b a => fX11_drought_h24 5000 f (nI g) (nI n) x3 a.1 (nI b) a.2) (fun f b a => fX12_drought_h72 5000 f (nI g) (nI n) x3 a.1 (qs g).2.2.1 (nI b) a.2) (fun _ a b => oSame xWk SX a.2 ∧ mSam1 S1 b.2 ∧ b.2 99 4 = 0 ∧ ∀ j, b.2 46 j = S2 46 j) (fun r r' => r.1 = 0 ∧ xSame SX r.2.2 ∧ mSame S1 r'.2 ∧ r'.2 99 4 = 0) (2 ^ n) (by
      rintro f f' ⟨v, S⟩ ⟨v', S'⟩ ⟨i2, i3, i4, i5⟩
      dsimp only at i2 i3 i4 i5
      refine ⟨(0, v, S), (v', sU S' 99 41 (-1)), ?_, ?_, rfl, xWk.same i2, fun i j hij => ?_, ?_⟩
      · show fX11_drought_b24 5000 _ (nI g) (nI n) x3 v (nI (2 ^ n)) S = _
        unfold fX11_drought_b24
        rw [hsh, if_pos (nI_le (Nat.le_refl _) (by omega))]
        rfl
      · show fX12_drought_b72 5000 _ (nI g) (nI n) x3 v' _ (nI (2 ^ n)) S' = _
        unfold fX12_drought_b72
        rw [hsh, if_pos (nI_le (Nat.le_refl _) (by omega))]
        rfl
      · dsimp only
        by_cases h41 : i = 99 ∧ j = 41
        · rw [h41.1, h41.2, sU_s]; exact w41.symm
        · rw [sU_n h41]; exact i3 i j hij h41
      · dsimp only
        rw [sU_n (by omega)]; exact i4) (by
      rintro f f' b ⟨v, S⟩ ⟨v', S'⟩ hb ⟨i2, i3, i4, i5⟩
      dsimp only at i2 i3 i4 i5
      have C' := C.on (Or.inl rfl) i2
      obtain ⟨X1, b1, b2, b3⟩ := x_begin (N := 5000) (Or.inl rfl) Zk C' hg (by omega)
      obtain ⟨lk', X2, c1, c2⟩ := x_drought_h (n := n) (tn := x3) (lk := v) (st := nI b) (r := fX11_drought_h24 5000 f) Zk C.1 h9 n2 (by omega) (K.1 g hg) (K.2.2 g hg) b2 (i2.tr b3)
      obtain ⟨M2, d1, d2⟩ := m_drought_h (n := n) (tn := x3) (lk := v') (x5 := (qs g).2.2.1) (st := nI b) (r := fX12_drought_h72 5000 f') Zk K.h h9 n2 hg (M.on1 i3)
      obtain ⟨M4, u1, u2⟩ := k3 M2 (fun j => (d2 46 j rfl).trans (i5 j))
      refine ⟨(lk', X2), (if (trj Z (Z 5 g) (SX 21 1) (dwf (nI b) h) h (qs g) n).2.2.1 ≤ (qs g).2.2.1 then v' else v' + wtR (nI b) x3 n, M4), ⟨c2, mD_back i3 d2 u2, ?_, fun j => ?_⟩, ?_, ?_⟩
      · show M4 99 4 = 0
        rw [u2 99 4]
        exact (d2 99 4 rfl).trans i4
      · show M4 46 j = S2 46 j
        rw [u2 46 j]
        exact (d2 46 j rfl).trans (i5 j)
      · show fX11_drought_b24 5000 (fX11_drought_h24 5000 f) (nI g) (nI n) x3 v (nI b) S = _
        unfold fX11_drought_b24
        rw [hsh, if_neg (nI_ge hb (by omega))]
        unfold fX11_drought_b32
        dsimp only [lt]
        rw [bnd_t b1]
        dsimp only
        rw [c1, nI_1]
      · show fX12_drought_b72 5000 (fX12_drought_h72 5000 f') (nI g) (nI n) x3 v' _ (nI b) S' = _
        unfold fX12_drought_b72
        rw [hsh, if_neg (nI_ge hb (by omega))]
        unfold fX12_drought_b80
        rw [d1, bnd_t u1, nI_1]) (2 ^ n) 0 (0, SX) (0, S2) 5000 5000 (by omega) ⟨oSame.rf, fun i j h1 h2 => k2 i j (fun q => by rw [q] at h1; cases h1), by dsimp only; rw [k2 99 4 (by omega)]; exact c0, fun _ => rfl⟩ (by omega) (by omega)
  refine stSuU 5000 5000 hJ rfl (Or.inl rfl) ⟨rx, ?_, a3.1, a3.2.1⟩ ⟨rm, ?_, by rw [← hS1]; exact a3.2.2.1, a3.2.2.2⟩
  · show fX11_drought 5000 (nI g) (nI n) x3 SX = _
    rw [hX]
    exact a1
  · show fX12_drought 5000 (nI g) (nI n) x3 SM = _
    rw [hM]
    exact a2
end

/-! part 61.ayears -/
section
/-! years -/
noncomputable def sdN (s : Int32) : Int32 := s * 1103515245 + 12345
noncomputable def vN (s : Int32) : Nat := s.toBitVec.toNat / 65536 % 32768
theorem ush_v (s : Int32) : ((s.toUInt32 >>> ((16 : Int32).toUInt32 &&& Int32.toUInt32 31)).toInt32 &&& 32767 : Int32) = nI (vN s) := by
  rw [pk_and (m := 32767) _ 15 rfl, pk_ushr s 16 16 rfl]
  rfl
theorem bb_32767 : ∀ i, i < 32 → bb 32767 i = decide (i < 15) := by decide +kernel
theorem ssh_v (s : Int32) : ((s >>> ((16 : Int32) &&& 31)) &&& 32767 : Int32) = nI (vN s) := by
  rw [← ush_v s]
  refine bb_ext (fun i hi => ?_)
  rw [bb_and, bb_and, bb_32767 i hi]
  by_cases h15 : i < 15
  · rw [decide_eq_true h15, Bool.and_true, Bool.and_true, show ((16 : Int32) &&& 31) = (nI 16 &&& 31) from rfl, bb_sshr 16 (by decide) s hi, if_pos (by omega)]
    unfold bb
    rw [← BitVec.testBit_toNat, ← BitVec.testBit_toNat, pk_ushr s 16 16 rfl, Nat.testBit_div_two_pow, Nat.add_comm]
  · rw [decide_eq_false h15, Bool.and_false, Bool.and_false]
def yR (Z SX S1 S2 : gS) (h : Nat) (S S' : gS) : Prop := ∃ (sd d : Int32) (qs : Nat → qT), S 0 9 = sd ∧ S' 99 56 = sd ∧ cSit 46 Z S h d qs ∧ mSit Z S' h d (Z 5) qs ∧ qsOK Z (Z 5) qs ∧ xSame SX S ∧ (∀ j, S' 46 j = S2 46 j) ∧ S' 99 4 = 0 ∧ (∀ i j, mScr i j = false → mPk i j = false → ¬ (i = 99 ∧ j = 41) → S' i j = S1 i j)
theorem cSit.any {nd : Nat} {Z S S' : gS} {h : Nat} {d : Int32} {qs : Nat → qT} (hnd : nd = 21 ∨ nd = 46) (C : cSit nd Z S h d qs) (s : ∀ i j, ¬ (i = 0 ∧ j = 9) → S' i j = S i j) : cSit nd Z S' h d qs := by
  obtain ⟨c1, c2, c3, c4⟩ := C
  have hT : xtw S' = xtw S := by
    unfold xtw
    rw [s 0 7 (by omega)]
  refine ⟨?_, by rw [s nd 0 (by omega)]; exact c2, by rw [s nd 1 (by omega)]; exact c3, fun g hg => ?_⟩
  · rw [hT]
    intro i j h1 h2
    have := xtw_cases (S := S)
    rw [s (xtw S + i) j (by omega)]
    exact c1 i j h1 h2
  · rw [s _ _ (by omega), s _ _ (by omega), s _ _ (by omega), s _ _ (by omega)]
    exact c4 g hg
section
variable {Z SX S1 S2 S S' : gS} {h : Nat}
theorem yR.draw {n : Nat} (Y : yR Z SX S1 S2 h S S') (h1 : 1 ≤ n) (h2 : n < 2 ^ 31) : ∃ v Sa Sb, v < n ∧ fX11_draw 5000 (nI n) S = some (nI v, Sa) ∧ fX12_drawOf 5000 (nI n) S' = some (nI v, Sb) ∧ yR Z SX S1 S2 h Sa Sb ∧ (∀ i j, ¬ (i = 0 ∧ j = 9) → Sa i j = S i j) ∧ (∀ i j, ¬ (i = 99 ∧ j = 56) → Sb i j = S' i j) := by
  obtain ⟨sd, d, qs, y1, y2, C, M, K, xs, y46, y4, ms⟩ := Y
  have hv : vN (sdN sd) < 2 ^ 31 := by
    unfold vN
    have := Nat.mod_lt ((sdN sd).toBitVec.toNat / 65536) (show 0 < 32768 by decide)
    omega
  refine ⟨vN (sdN sd) % n, sU S 0 9 (sdN sd), sU S' 99 56 (sdN sd), Nat.mod_lt _ (by omega), ?_, ?_, ⟨sdN sd, d, qs, sU_s, sU_s, C.any (Or.inr rfl) (fun i j hij => sU_n hij), M.on (mSame.rf.up rfl), K, xs.up rfl, fun j => by rw [sU_n (by omega)]; exact y46 j, by rw [sU_n (by omega)]; exact y4, fun i j a b c => ?_⟩, fun i j hij => sU_n hij, fun i j hij => sU_n hij⟩
  · unfold fX11_draw fX11_draw_b0
    dsimp only [lt]
    rw [y1, if_pos (show (1 : Int32) ≤ nI n from nI_le (a := 1) h1 h2)]
    unfold fX11_draw_b25
    rw [sU_s]
    show chk (nz (nI n)) (fX11_draw_b38 5000 ((((sdN sd).toUInt32 >>> ((16 : Int32).toUInt32 &&& Int32.toUInt32 31)).toInt32 &&& 32767 : Int32) - (((sdN sd).toUInt32 >>> ((16 : Int32).toUInt32 &&& Int32.toUInt32 31)).toInt32 &&& 32767 : Int32) / nI n * nI n) (sU S 0 9 (sdN sd))) = _
    rw [chk_t (nz_t (by omega) h2), ush_v, pk_rem hv (by omega) h2]
    rfl
  · unfold fX12_drawOf fX12_drawOf_b0
    dsimp only [lt]
    rw [y2, sU_s]
    show chk (nz (nI n)) (some ((((sdN sd) >>> ((16 : Int32) &&& 31)) &&& 32767 : Int32) - (((sdN sd) >>> ((16 : Int32) &&& 31)) &&& 32767 : Int32) / nI n * nI n, sU S' 99 56 (sdN sd))) = _
    rw [chk_t (nz_t (by omega) h2), ssh_v, pk_rem hv (by omega) h2]
  · rw [sU_n (fun q => by rw [q.1, q.2] at a; cases a)]
    exact ms i j a b c
/-- one GUILD's row put anew in the draft -/
theorem yR.row {g : Nat} {Sa Sb : gS} (Zk : tOK Z) (hg : g < tn1 Z) (Y : yR Z SX S1 S2 h S S') (nq : qT → qT) (hq : ∀ d qs, cSit 46 Z S h d qs → mSit Z S' h d (Z 5) qs → qsOK Z (Z 5) qs → qsOK Z (Z 5) (upq qs g (nq (qs g)))) (sa : ∀ i j, ¬ (47 ≤ i ∧ i ≤ 50 ∧ j = g) → Sa i j = S i j) (sb : ∀ i j, ¬ (32 ≤ i ∧ i ≤ 35 ∧ j = g) → Sb i j = S' i j)
    (ra : ∀ q : qT, S 47 g = q.1 → S 48 g = q.2.1 → S 49 g = q.2.2.1 → S 50 g = q.2.2.2 → Sa 47 g = (nq q).1 ∧ Sa 48 g = (nq q).2.1 ∧ Sa 49 g = (nq q).2.2.1 ∧ Sa 50 g = (nq q).2.2.2) (rb : ∀ q : qT, S' 32 g = q.1 → S' 33 g = q.2.1 → S' 34 g = q.2.2.1 → S' 35 g = q.2.2.2 → Sb 32 g = (nq q).1 ∧ Sb 33 g = (nq q).2.1 ∧ Sb 34 g = (nq q).2.2.1 ∧ Sb 35 g = (nq q).2.2.2) : yR Z SX S1 S2 h Sa Sb := by
  obtain ⟨sd, d, qs, y1, y2, C, M, K, xs, y46, y4, ms⟩ := Y
  have z6 := Zk.2.1.2
  obtain ⟨a1, a2, a3, a4⟩ := C.2.2.2 g hg
  obtain ⟨b1, b2, b3, b4⟩ := M.2.2.2.2 g hg
  obtain ⟨u1, u2, u3, u4⟩ := ra (qs g) a1 a2 a3 a4
  obtain ⟨v1, v2, v3, v4⟩ := rb (qs g) b1 b2 b3 b4
  refine ⟨sd, d, upq qs g (nq (qs g)), by rw [sa 0 9 (by omega)]; exact y1, by rw [sb 99 56 (by omega)]; exact y2, C.up (Or.inr rfl) sa u1 u2 u3 u4, M.up sb v1 v2 v3 v4, hq d qs C M K, fun i j hij => ?_, fun j => by rw [sb 46 j (by omega)]; exact y46 j, by rw [sb 99 4 (by omega)]; exact y4, fun i j a b c => ?_⟩
  · rw [sa i j (fun q => ?_)]
    · exact xs i j hij
    · rcases (show i = 47 ∨ i = 48 ∨ i = 49 ∨ i = 50 by omega) with r | r | r | r <;> rw [r] at hij <;> cases hij
  · rw [sb i j (fun q => ?_)]
    · exact ms i j a b c
    · rw [mPk_t.mpr (Or.inl (by omega))] at b
      cases b
theorem yR.hour {we : Int32} (Zk : tOK Z) (hb : h < 2 ^ 30) (Y : yR Z SX S1 S2 h S S') (hw : S' 99 41 = we) (hn : ¬ we = -1) (h0 : 0 ≤ we) : ∃ v Sa Sb, fX11_passHour 5000 46 we S = some (v, Sa) ∧ fX12_anHour 5000 S' = some (0, Sb) ∧ fX12_bitsOf 5000 (Sb 99 45) Sb = some (v, Sb) ∧ yR Z SX S1 S2 (h + 1) Sa Sb := by
  obtain ⟨sd, d, qs, y1, y2, C, M, K, xs, y46, y4, ms⟩ := Y
  have z6 := Zk.2.1.2
  obtain ⟨Sa, a1, a2, a3⟩ := x_hourAll (N := 5000) (we := we) (Or.inr rfl) Zk C K hb (by decide)
  obtain ⟨Sb, b1, b2, b3, b4⟩ := m_step (N := 5000) (we := we) Zk K.h hb (by decide) M (Or.inl ⟨hw, hn⟩) h0
  refine ⟨_, Sa, Sb, a1, b1, ?_, sd, d, _, by rw [a3 0 9 rfl]; exact y1, by rw [b4 99 56 rfl]; exact y2, a2, b2, K.nx, fun i j hij => ?_, fun j => by rw [b4 46 j rfl]; exact y46 j, by rw [b4 99 4 rfl]; exact y4, fun i j a b c => ?_⟩
  · rw [b3, m_bitsD (by omega) (by decide)]
  · rw [a3 i j (xHo_f ?_ ?_)]
    · exact xs i j hij
    · intro q
      rcases (show i = 46 ∨ i = 47 ∨ i = 48 ∨ i = 49 ∨ i = 50 by omega) with r | r | r | r | r <;> rw [r] at hij <;> cases hij
    · refine ⟨?_, ?_, ?_, ?_, ?_⟩ <;> intro q <;> rw [q] at hij <;> cases hij
  · rw [b4.q i j (by unfold mQ; rw [a, b]; rfl)]
    exact ms i j a b c
theorem yR.n (Zk : tOK Z) (Y : yR Z SX S1 S2 h S S') : S (xtw S) 0 = nI (tn0 Z) ∧ S (xtw S) 5 = nI (tn1 Z) ∧ S' 5 0 = nI (tn0 Z) ∧ S' 5 1 = nI (tn1 Z) := by
  obtain ⟨sd, d, qs, y1, y2, C, M, -⟩ := Y
  exact ⟨(C.1 0 0 (by omega) (by omega)).trans Zk.1.1, (C.1 0 5 (by omega) (by omega)).trans Zk.2.1.1, M.1.1, M.1.2.1⟩
theorem yR.holder {x : Int32} (Zk : tOK Z) (Y : yR Z SX S1 S2 h S S') : ∃ o, fX7_holderOf 5000 46 (xtw S) x S = some (o, S) ∧ fX12_hirerOf 5000 x S' = some (o, S') ∧ (o = -1 → ∀ g, g < tn1 Z → S 50 g ≠ x) := by
  obtain ⟨-, n5, -, n1⟩ := Y.n Zk
  have z6 := Zk.2.1.2
  obtain ⟨sd, d, qs, y1, y2, C, M, -⟩ := Y
  refine ⟨hoR (S 50) x (tn1 Z) 0, x_holderOf (N := 5000) n5 z6 (by decide), ?_, fun ho g hg => ?_⟩
  · rw [m_hirerOf (N := 5000) n1 z6 (by decide), hoR_eq (r := S' 35) (r' := S 50) (tn1 Z) 0 (fun i _ hi => (M.2.2.2.2 i (by omega)).2.2.2.trans (C.2.2.2 i (by omega)).2.2.2.symm)]
  · rcases hoR_cases (r := S 50) (x := x) (tn1 Z) 0 with ⟨o1, o2⟩ | ⟨g0, -, g1, o2, o1⟩
    · exact o2 g (by omega) (by omega)
    · rw [o1] at ho
      exact absurd ho (nI_nem (by omega))
/-- what chance does -/
theorem yR.chance {v : Nat} (Zk : tOK Z) (Y : yR Z SX S1 S2 h S S') (hv : v < 7) : ∃ Sa Sb, fX11_chance 5000 (nI v) S = some (0, Sa) ∧ (if (S' 5 0) ≤ 0 then fX12_something_b29 5000 (nI v) S' else fX12_something_b16 5000 (nI v) S') = fX12_something_b151 5000 Sb ∧ yR Z SX S1 S2 h Sa Sb := by
  obtain ⟨n0x, n1x, n0m, n1m⟩ := Y.n Zk
  have z6 := Zk.2.1.2
  have z8 := Zk.1.2
  have vn : ∀ b, b < 7 → (nI v = nI b ↔ v = b) := fun b hb => nI_eq (by omega) (by omega)
  have none80 : ∀ A, fX12_something_b80 5000 (nI v) 0 A = fX12_something_b151 5000 A := by
    intro A
    unfold fX12_something_b80 fX12_something_b85 fX12_something_b110 fX12_something_b115
    by_cases h1 : nI v = 1
    · rw [if_pos h1, if_pos rfl, if_neg (by rw [h1]; decide)]
    · rw [if_neg h1]
      by_cases h2 : nI v = 2
      · rw [if_pos h2, if_pos rfl]
      · rw [if_neg h2]
  have none29 : fX12_something_b29 5000 (nI v) S' = fX12_something_b151 5000 S' := by
    unfold fX12_something_b29 fX12_something_b30 fX12_something_b35
    by_cases h1 : nI v = 0
    · rw [if_pos h1, if_pos rfl, none80]
    · rw [if_neg h1, none80]
  by_cases e1 : tn1 Z = 0
  · refine ⟨S, S', ?_, ?_, Y⟩
    · unfold fX11_chance fX11_chance_b0
      dsimp only [lt]
      rw [n1x, e1, if_pos (show nI 0 = 0 from rfl)]
      rfl
    · by_cases h0 : S' 5 0 ≤ 0
      · rw [if_pos h0, none29]
      · rw [if_neg h0]
        unfold fX12_something_b16
        rw [n1m, e1, if_pos (show nI 0 ≤ 0 by decide), none29]
  by_cases e0 : tn0 Z = 0
  · refine ⟨S, S', ?_, ?_, Y⟩
    · unfold fX11_chance fX11_chance_b0
      dsimp only [lt]
      rw [n1x, if_neg (nI_ne0 (by omega) (by omega))]
      unfold fX11_chance_b10
      dsimp only [lt]
      rw [n0x, e0, if_pos (show nI 0 = 0 from rfl)]
      rfl
    · rw [n0m, e0, if_pos (show nI 0 ≤ 0 by decide), none29]
  have hX : fX11_chance 5000 (nI v) S = fX11_chance_b21 5000 (nI v) S := by
    unfold fX11_chance fX11_chance_b0
    dsimp only [lt]
    rw [n1x, if_neg (nI_ne0 (by omega) (by omega))]
    unfold fX11_chance_b10
    dsimp only [lt]
    rw [n0x, if_neg (nI_ne0 (by omega) (by omega))]
  have hM : (if (S' 5 0) ≤ 0 then fX12_something_b29 5000 (nI v) S' else fX12_something_b16 5000 (nI v) S') = fX12_something_b30 5000 (nI v) 1 S' := by
    rw [n0m, if_neg (nI_nle (by omega) (by omega))]
    unfold fX12_something_b16
    rw [n1m, if_neg (nI_nle (by omega) (by omega))]
    rfl
  rw [hX, hM]
  have one80 : ∀ A, ¬ v = 1 → ¬ v = 2 → fX12_something_b80 5000 (nI v) 1 A = fX12_something_b151 5000 A := by
    intro A h1 h2
    unfold fX12_something_b80 fX12_something_b110
    rw [if_neg (show ¬ nI v = 1 from fun q => h1 ((vn 1 (by omega)).mp q)), if_neg (show ¬ nI v = 2 from fun q => h2 ((vn 2 (by omega)).mp q))]
  by_cases v0 : v = 0
  · subst v0
    obtain ⟨g, A1, B1, hg, a1, b1, Y1, sa1, sb1⟩ := Y.draw (n := tn1 Z) (by omega) (by omega)
    obtain ⟨n0x1, n1x1, n0m1, n1m1⟩ := Y1.n Zk
    obtain ⟨k, A2, B2, hk, a2, b2, Y2, sa2, sb2⟩ := Y1.draw (n := tn0 Z) (by omega) (by omega)
    obtain ⟨o, o1, o2, o3⟩ := Y2.holder (x := nI k) Zk
    have hX2 : fX11_chance_b21 5000 (nI 0) S = if o = -1 then fX11_chance_b65 5000 (nI g) (nI k) A2 else fX11_chance_b75 5000 A2 := by
      show fX11_chance_b25 5000 S = _
      unfold fX11_chance_b25
      dsimp only [lt]
      rw [n1x, bnd_t a1]
      dsimp only
      rw [n0x1, bnd_t a2]
      dsimp only
      rw [bnd_t o1]
    have hM2 : fX12_something_b30 5000 (nI 0) 1 S' = if o = -1 then fX12_something_b72 5000 (nI 0) 1 (nI g) (nI k) B2 else fX12_something_b80 5000 (nI 0) 1 B2 := by
      show fX12_something_b39 5000 (nI 0) 1 S' = _
      unfold fX12_something_b39
      rw [n1m, bnd_t b1]
      dsimp only
      rw [n0m1, bnd_t b2]
      dsimp only
      rw [bnd_t o2]
    rw [hX2, hM2]
    by_cases ho : o = -1
    · rw [if_pos ho, if_pos ho]
      refine ⟨sU A2 50 g (nI k), sU B2 35 g (nI k), ?_, ?_, Y2.row (g := g) Zk hg (fun q => (q.1, q.2.1, q.2.2.1, nI k)) (fun d qs C M K => ?_) (fun i j hij => sU_n (by omega)) (fun i j hij => sU_n (by omega)) (fun q r1 r2 r3 r4 => ⟨?_, ?_, ?_, sU_s⟩) (fun q r1 r2 r3 r4 => ⟨?_, ?_, ?_, sU_s⟩)⟩
      · unfold fX11_chance_b65
        rw [chk_t (inb_t (by omega) (by decide)), nI_clamp (by omega)]
        rfl
      · unfold fX12_something_b72
        rw [chk_t (inb_t (by omega) (by decide)), nI_clamp (by omega)]
        exact one80 _ (by omega) (by omega)
      · have hq := K.1 g hg
        refine K.up ⟨hq.1, hq.2.1, hq.2.2.1, Or.inr ⟨k, hk, rfl⟩⟩ (Or.inr (fun g' hg' hne hh => ?_))
        exact o3 ho g' hg' ((C.2.2.2 g' hg').2.2.2.trans hh)
      · rw [sU_n (by omega)]; exact r1
      · rw [sU_n (by omega)]; exact r2
      · rw [sU_n (by omega)]; exact r3
      · rw [sU_n (by omega)]; exact r1
      · rw [sU_n (by omega)]; exact r2
      · rw [sU_n (by omega)]; exact r3
    · rw [if_neg ho, if_neg ho]
      exact ⟨A2, B2, rfl, one80 _ (by omega) (by omega), Y2⟩
  have hX3 : fX11_chance_b21 5000 (nI v) S = fX11_chance_b78 5000 (nI v) S := by
    unfold fX11_chance_b21
    rw [if_neg (show ¬ nI v = 0 from fun q => v0 ((vn 0 (by omega)).mp q))]
  have hM3 : fX12_something_b30 5000 (nI v) 1 S' = fX12_something_b80 5000 (nI v) 1 S' := by
    unfold fX12_something_b30
    rw [if_neg (show ¬ nI v = 0 from fun q => v0 ((vn 0 (by omega)).mp q))]
  rw [hX3, hM3]
  by_cases v1 : v = 1
  · subst v1
    obtain ⟨k, A1, B1, hk, a1, b1, Y1, sa1, sb1⟩ := Y.draw (n := tn0 Z) (by omega) (by omega)
    have hX4 : fX11_chance_b78 5000 (nI 1) S = some (0, sU A1 46 1 (A1 46 1 ^^^ ((1 : Int32) <<< (nI k &&& 31)))) := by
      show fX11_chance_b83 5000 S = _
      unfold fX11_chance_b83
      dsimp only [lt]
      rw [n0x, bnd_t a1]
      rfl
    have hM4 : fX12_something_b80 5000 (nI 1) 1 S' = fX12_something_b151 5000 (sU B1 99 38 (S' 99 38 ^^^ ((1 : Int32) <<< (nI k &&& 31)))) := by
      show fX12_something_b89 5000 (nI 1) 1 S' = _
      unfold fX12_something_b89
      rw [n0m, bnd_t b1]
      rfl
    rw [hX4, hM4]
    refine ⟨_, _, rfl, rfl, ?_⟩
    have e38 : B1 99 38 = S' 99 38 := sb1 99 38 (by omega)
    rw [← e38]
    obtain ⟨sd, d, qs, y1, y2, C, M, K, xs, y46, y4, ms⟩ := Y1
    obtain ⟨c1, c2, c3, c4⟩ := C
    obtain ⟨m1, m2, m3, m4, m5⟩ := M
    rw [c3, m4]
    obtain ⟨d', hd'⟩ : ∃ z, z = d ^^^ ((1 : Int32) <<< (nI k &&& 31)) := ⟨_, rfl⟩
    rw [← hd']
    have sx : ∀ i j, ¬ (i = 46 ∧ j = 1) → sU A1 46 1 d' i j = A1 i j := fun i j hij => sU_n hij
    have sm : ∀ i j, ¬ (i = 99 ∧ j = 38) → sU B1 99 38 d' i j = B1 i j := fun i j hij => sU_n hij
    have hT : xtw (sU A1 46 1 d') = xtw A1 := by
      unfold xtw
      rw [sx 0 7 (by omega)]
    refine ⟨sd, d', qs, by rw [sx 0 9 (by omega)]; exact y1, by rw [sm 99 56 (by omega)]; exact y2, ⟨?_, by rw [sx 46 0 (by omega)]; exact c2, sU_s, fun g hg => ?_⟩, ⟨m1.on (fun i j h1 h2 => sm i j (by omega)), fun g hg => by rw [sm 18 g (by omega)]; exact m2 g hg, by rw [sm 99 37 (by omega)]; exact m3, sU_s, fun g hg => by rw [sm 32 g (by omega), sm 33 g (by omega), sm 34 g (by omega), sm 35 g (by omega)]; exact m5 g hg⟩, K, xs.up rfl, fun j => by rw [sm 46 j (by omega)]; exact y46 j, by rw [sm 99 4 (by omega)]; exact y4, fun i j a b c => ?_⟩
    · rw [hT]
      intro i j h1 h2
      have := xtw_cases (S := A1)
      rw [sx _ _ (by omega)]
      exact c1 i j h1 h2
    · rw [sx _ _ (by omega), sx _ _ (by omega), sx _ _ (by omega), sx _ _ (by omega)]
      exact c4 g hg
    · rw [sm i j (fun q => by rw [q.1, q.2] at b; cases b)]
      exact ms i j a b c
  by_cases v2 : v = 2
  · subst v2
    obtain ⟨g, A1, B1, hg, a1, b1, Y1, sa1, sb1⟩ := Y.draw (n := tn1 Z) (by omega) (by omega)
    have hgc : (nI g).toNatClampNeg = g := nI_clamp (by omega)
    have hin : inb (nI g) 6 = true := inb_t (by omega) (by decide)
    have hX4 : fX11_chance_b78 5000 (nI 2) S = some (0, sU A1 48 g (if A1 48 g + 20 < 999 then A1 48 g + 20 else 999)) := by
      show fX11_chance_b109 5000 S = _
      unfold fX11_chance_b109
      dsimp only [lt]
      rw [n1x, bnd_t a1]
      dsimp only
      unfold fX7_enrich fX7_enrich_b0
      rw [if_neg (nI_pos (by omega))]
      unfold fX7_enrich_b4
      rw [if_neg (show ¬ (6 : Int32) ≤ nI g from nI_ge (b := 6) (by omega) (by decide))]
      unfold fX7_enrich_b13
      rw [chk_t hin, chk_t hin, hgc]
      rfl
    have hM4 : fX12_something_b80 5000 (nI 2) 1 S' = fX12_something_b151 5000 (sU B1 33 g (if B1 33 g + 20 < 999 then B1 33 g + 20 else 999)) := by
      show fX12_something_b119 5000 S' = _
      unfold fX12_something_b119
      rw [n1m, bnd_t b1]
      dsimp only [lt]
      rw [chk_t hin, chk_t hin, hgc]
    rw [hX4, hM4]
    refine ⟨_, _, rfl, rfl, Y1.row (g := g) Zk hg (fun q => (q.1, (if q.2.1 + 20 < 999 then q.2.1 + 20 else 999), q.2.2)) (fun d qs C M K => ?_) (fun i j hij => sU_n (by omega)) (fun i j hij => sU_n (by omega)) (fun q r1 r2 r3 r4 => ⟨?_, ?_, ?_, ?_⟩) (fun q r1 r2 r3 r4 => ⟨?_, ?_, ?_, ?_⟩)⟩
    · have hq := K.1 g hg
      refine K.up ⟨hq.1, ?_, hq.2.2⟩ ?_
      · show 0 ≤ (if (qs g).2.1 + 20 < 999 then (qs g).2.1 + 20 else 999) ∧ (if (qs g).2.1 + 20 < 999 then (qs g).2.1 + 20 else 999) ≤ 999
        obtain ⟨y, hy, ey⟩ := i32_999 hq.2.1
        rw [ey, show (20 : Int32) = nI 20 from rfl, nI_add]
        by_cases hl : nI (y + 20) < 999
        · rw [if_pos hl]
          exact ⟨nI_pos' (by omega), Int32.le_of_lt hl⟩
        · rw [if_neg hl]
          decide
      · by_cases hm : (qs g).2.2.2 = -1
        · exact Or.inl hm
        · exact Or.inr (fun g' hg' hne hh => hne (K.2.1 g' g hg' hg hh (fun q => hm (hh.symm.trans q))))
    · rw [sU_n (by omega)]; exact r1
    · rw [sU_s, r2]
    · rw [sU_n (by omega)]; exact r3
    · rw [sU_n (by omega)]; exact r4
    · rw [sU_n (by omega)]; exact r1
    · rw [sU_s, r2]
    · rw [sU_n (by omega)]; exact r3
    · rw [sU_n (by omega)]; exact r4
  · refine ⟨S, S', ?_, one80 S' v1 v2, Y⟩
    unfold fX11_chance_b78
    rw [if_neg (show ¬ nI v = 1 from fun q => v1 ((vn 1 (by omega)).mp q))]
    unfold fX11_chance_b104
    rw [if_neg (show ¬ nI v = 2 from fun q => v2 ((vn 2 (by omega)).mp q))]
    rfl
theorem yR.wet {x : Int32} (Y : yR Z SX S1 S2 h S S') : yR Z SX S1 S2 h S (sU S' 99 41 x) := by
  obtain ⟨sd, d, qs, y1, y2, C, M, K, xs, y46, y4, ms⟩ := Y
  exact ⟨sd, d, qs, y1, by rw [sU_n (by omega)]; exact y2, C, M.up41, K, xs, fun j => by rw [sU_n (by omega)]; exact y46 j, by rw [sU_n (by omega)]; exact y4, fun i j a b c => by rw [sU_n c]; exact ms i j a b c⟩
end
theorem or_bit {c : Nat → Bool} {k : Nat} (hk : k < 8) : drB c 8 0 0 ||| ((1 : Int32) <<< (nI k &&& 31)) = drB (fun i => c i || decide (i = k)) 8 0 0 := by
  refine bb_ext (fun i hi => ?_)
  rw [bb_or, bb_pow k (by omega) i hi, bb_drB hi 8 0 0 (by omega), bb_drB hi 8 0 0 (by omega), bb_0]
  by_cases h : i = k
  · rw [decide_eq_true h, decide_eq_true (p := 0 ≤ i) (by omega), decide_eq_true (p := i < 0 + 8) (by omega)]
    simp
  · rw [decide_eq_false h]
    simp
theorem hbR_bits {row : Nat → Int32} : ∀ (m k : Nat) (c : Nat → Bool), (∀ g, k ≤ g → g < k + m → row g = -1 ∨ ∃ q : Nat, q < 8 ∧ row g = nI q) → ∃ c', hbR row m k (drB c 8 0 0) = drB c' 8 0 0 := by
  intro m
  induction m with
  | zero => intro k c _; exact ⟨c, rfl⟩
  | succ m ih =>
    intro k c h
    show ∃ c', hbR row m (k + 1) (if row k = -1 then drB c 8 0 0 else drB c 8 0 0 ||| ((1 : Int32) <<< (row k &&& 31))) = drB c' 8 0 0
    rcases h k (Nat.le_refl _) (by omega) with h1 | ⟨q, q8, h1⟩
    · rw [if_pos h1]
      exact ih (k + 1) c (fun g a b => h g (by omega) (by omega))
    · rw [if_neg (by rw [h1]; exact nI_nem (by omega)), h1, or_bit q8]
      exact ih (k + 1) _ (fun g a b => h g (by omega) (by omega))
theorem st_years : Lw_years JJ := by
  intro SX SM x1 x2 x3 hJ
  obtain ⟨S1, Z, h, qs, hS1, c0, hJ1, Zk, h9, C, M, K, w41, x0, x5⟩ := pre hJ
  have z6 := Zk.2.1.2
  have z8 := Zk.1.2
  have hF : fX12_years 5000 x1 x2 x3 SM = if iv (wth x3 0 2) = 0 then fX12_years_b17 5000 S1 else if iv (wth x2 0 60) = 0 then fX12_years_b35 5000 S1 else fX12_years_b41 5000 x1 x2 x3 S1 := by
    unfold fX12_years fX12_years_b0
    dsimp only [lt]
    rw [← hS1, bnd_t in_0_2]
    unfold fX12_years_b23
    rw [bnd_t in_0_60]
  cases h3 : wth x3 0 2 with
  | false =>
    refine stFl 5000 5000 1 hJ one_ne (Or.inr (Or.inl rfl)) (nwF h3) ?_
    show fX12_years 5000 x1 x2 x3 SM = _
    rw [hF, h3, ← hS1]
    rfl
  | true =>
  cases h2 : wth x2 0 60 with
  | false =>
    refine stFl 5000 5000 2 hJ two_ne (Or.inr (Or.inr rfl)) ((nwT h3).trans (niF h2)) ?_
    show fX12_years 5000 x1 x2 x3 SM = _
    rw [hF, h3, h2, ← hS1]
    rfl
  | true =>
  obtain ⟨n, -, n2, rfl⟩ := wth_of (a := 0) (b := 60) (by decide) (by decide) h2
  obtain ⟨X2, a1, a2, a3, a4⟩ := x_copy7 (N := 5000) (k0 := 46) (k1 := 21) (S := SX) (by decide) (by decide)
  obtain ⟨S2, k1, k2, k3⟩ := q_pk (N := 5000) (S1 := S1) (nd := 46) (Or.inl rfl) (by decide)
  have hX : fX11_years 5000 x1 (nI n) x3 SX = fX11_years_h37 5000 5000 (nI n) x3 0 0 (sU X2 0 9 x1) := by
    refine (nwT h3).trans ((niT h2).trans ?_)
    dsimp only
    rw [bnd_t a1]
    rfl
  have hM : fX12_years 5000 x1 (nI n) x3 SM = fX12_years_h61 5000 5000 (nI n) x3 0 0 (sU S2 99 56 x1) := by
    rw [hF, h3, h2]
    show fX12_years_b41 5000 x1 (nI n) x3 S1 = _
    unfold fX12_years_b41
    rw [bnd_t k1]
    rfl
  have s2 : mSame S1 S2 := fun i j hij => k2 i j (fun q => by rw [q] at hij; cases hij)
  have Y0 : yR Z SX S1 S2 h (sU X2 0 9 x1) (sU S2 99 56 x1) := by
    have hT : xtw (sU X2 0 9 x1) = xtw SX := by
      unfold xtw
      rw [sU_n (by omega), a2 0 7 (by omega)]
    refine ⟨x1, SX 21 1, qs, sU_s, sU_s, ⟨?_, ?_, ?_, fun g hg => ?_⟩, (M.on s2).on (mSame.rf.up rfl), K, fun i j hij => ?_, fun j => by rw [sU_n (by omega)], by rw [sU_n (by omega), k2 99 4 (by omega)]; exact c0, fun i j a b c => ?_⟩
    · rw [hT]
      intro i j h1 h2
      have := xtw_cases (S := SX)
      rw [sU_n (by omega), a2 _ _ (by omega)]
      exact C.1 i j h1 h2
    · rw [sU_n (by omega), a3 0 (by omega)]; exact C.2.1
    · rw [sU_n (by omega), a3 1 (by omega)]
    · rw [sU_n (by omega), sU_n (by omega), sU_n (by omega), sU_n (by omega)]
      obtain ⟨q1, q2, q3, q4⟩ := a4 g (by omega)
      rw [q1, q2, q3, q4]
      exact C.2.2.2 g hg
    · rw [sU_n (fun q => by rw [q.1, q.2] at hij; cases hij), a2 i j (fun q => ?_)]
      rcases (show i = 46 ∨ i = 47 ∨ i = 48 ∨ i = 49 ∨ i = 50 by omega) with r | r | r | r | r <;> rw [r] at hij <;> cases hij
    · rw [sU_n (fun q => by rw [q.1, q.2] at a; cases a)]
      exact s2 i j a
  obtain ⟨rx, rm, b1, b2, b3⟩ := loop2 (A := Int32 × gS) (B := Int32 × gS) (fun f k a => fX11_years_h37 5000 f (nI n) x3 a.1 (nI k) a.2) (fun f k a => fX12_years_h61 5000 f (nI n) x3 a.1 (nI k) a.2) (fun k a b => a.1 = b.1 ∧ yR Z SX S1 S2 (h + k) a.2 b.2) (fun r r' => r.1 = 0 ∧ r.2.1 = r'.1 ∧ xSame SX r.2.2 ∧ mSame S1 r'.2 ∧ r'.2 99 4 = 0) n (by
      rintro f f' ⟨v, S⟩ ⟨v', S'⟩ ⟨i1, Y⟩
      dsimp only at i1 Y
      subst i1
      obtain ⟨m0x, m1x, m0m, m1m⟩ := Y.n Zk
      have Y2 := Y.wet (x := -1)
      obtain ⟨sd, d, qs', y1, y2, C', M', K', xs, y46, y4, ms⟩ := Y2
      obtain ⟨S4, u1, u2⟩ := k3 (sU S' 99 41 (-1)) y46
      have hs4 : mSame S1 S4 := by
        intro i j hij
        rw [u2 i j]
        by_cases hp : mPk i j = true
        · rw [if_pos hp]
        · rw [if_neg hp]
          by_cases h41 : i = 99 ∧ j = 41
          · rw [h41.1, h41.2, sU_s]; exact w41.symm
          · exact ms i j hij (Bool.not_eq_true _ |>.mp hp) h41
      have h44 : S4 99 4 = 0 := by
        rw [u2 99 4]
        exact y4
      have fin : ∀ x, fX12_years_b130 5000 x (sU S' 99 41 (-1)) = some (x, S4) := fun x => by
        unfold fX12_years_b130
        rw [bnd_t u1]
      have hXe : fX11_years_h37 5000 (f + 1) (nI n) x3 v (nI n) S = fX11_years_b77 5000 x3 v S := by
        show fX11_years_b37 5000 _ (nI n) x3 v (nI n) S = _
        unfold fX11_years_b37
        rw [if_pos (nI_le (Nat.le_refl _) (by omega))]
      have hMe : fX12_years_h61 5000 (f' + 1) (nI n) x3 v (nI n) S' = if x3 = 0 then fX12_years_b102 5000 v (sU S' 99 41 (-1)) else fX12_years_b107 5000 x3 (sU S' 99 41 (-1)) := by
        show fX12_years_b61 5000 _ (nI n) x3 v (nI n) S' = _
        unfold fX12_years_b61
        rw [if_pos (nI_le (Nat.le_refl _) (by omega))]
        rfl
      obtain ⟨y, -, yy, e3⟩ := wth_of (a := 0) (b := 2) (by decide) (by decide) h3
      rcases (show y = 0 ∨ y = 1 ∨ y = 2 by omega) with rfl | rfl | rfl
      · refine ⟨(0, v, S), (v, S4), ?_, ?_, rfl, rfl, xs, hs4, h44⟩
        · show fX11_years_h37 5000 (f + 1) (nI n) x3 v (nI n) S = _
          rw [hXe, e3]
          rfl
        · show fX12_years_h61 5000 (f' + 1) (nI n) x3 v (nI n) S' = _
          rw [hMe, e3]
          exact fin v
      · refine ⟨(0, sumR (S (46 + 2)) (tn1 Z) 0 0, S), (sumR (S (46 + 2)) (tn1 Z) 0 0, S4), ?_, ?_, rfl, rfl, xs, hs4, h44⟩
        · show fX11_years_h37 5000 (f + 1) (nI n) x3 v (nI n) S = _
          rw [hXe, e3]
          show fX11_years_b107 5000 S = _
          unfold fX11_years_b107
          dsimp only [lt]
          rw [bnd_t (x_purses (N := 5000) m1x z6 (by decide))]
        · show fX12_years_h61 5000 (f' + 1) (nI n) x3 v (nI n) S' = _
          rw [hMe, e3]
          show fX12_years_b112 5000 (sU S' 99 41 (-1)) = _
          unfold fX12_years_b112
          rw [bnd_t (m_sumOf (N := 5000) (n := tn1 Z) M'.1.2.1 z6 rfl (by decide)), sumR_eq (r := sU S' 99 41 (-1) 33) (r' := S (46 + 2)) (tn1 Z) 0 0 (fun i _ hi => (M'.2.2.2.2 i (by omega)).2.1.trans (C'.2.2.2 i (by omega)).2.1.symm)]
          exact fin _
      · obtain ⟨c', hc'⟩ := hbR_bits (row := S (46 + 4)) (tn1 Z) 0 (fun _ => false) (fun g _ hg => by
          rw [(C'.2.2.2 g (by omega)).2.2.2]
          rcases (K'.1 g (by omega)).2.2.2 with q | ⟨k, q1, q2⟩
          · exact Or.inl q
          · exact Or.inr ⟨k, by omega, q2⟩)
        have hc' : hbR (S (46 + 4)) (tn1 Z) 0 0 = drB c' 8 0 0 := hc'
        refine ⟨(0, nI (cntB c' 8), S), (nI (cntB c' 8), S4), ?_, ?_, rfl, rfl, xs, hs4, h44⟩
        · show fX11_years_h37 5000 (f + 1) (nI n) x3 v (nI n) S = _
          rw [hXe, e3]
          show fX11_years_b119 5000 S = _
          unfold fX11_years_b119
          dsimp only [lt]
          rw [bnd_t (x_hiredBits (N := 5000) m1x z6 (by decide)), hc']
          dsimp only
          rw [bnd_t (x_bitsD (by decide))]
        · show fX12_years_h61 5000 (f' + 1) (nI n) x3 v (nI n) S' = _
          rw [hMe, e3]
          show fX12_years_b123 5000 (sU S' 99 41 (-1)) = _
          unfold fX12_years_b123
          rw [bnd_t (m_hiredNow (N := 5000) (n := tn1 Z) M'.1.2.1 z6 (by decide)), hbR_eq (r := sU S' 99 41 (-1) 35) (r' := S (46 + 4)) (tn1 Z) 0 0 (fun i _ hi => (M'.2.2.2.2 i (by omega)).2.2.2.trans (C'.2.2.2 i (by omega)).2.2.2.symm), hc']
          dsimp only
          rw [bnd_t (m_bitsD (by decide) (by decide))]
          exact fin _) (by
      rintro f f' k ⟨v, S⟩ ⟨v', S'⟩ hk ⟨i1, Y⟩
      dsimp only at i1 Y
      subst i1
      obtain ⟨u, A1, B1, hu, a1, b1, Y1, -, -⟩ := Y.draw (n := 7) (by decide) (by decide)
      obtain ⟨A2, B2, a2, b2, Y2⟩ := Y1.chance Zk hu
      obtain ⟨we, A3, B3, hwe, a3, b3, Y3, -, -⟩ := Y2.draw (n := 4) (by decide) (by decide)
      obtain ⟨cn, A4, B4, a4, b4, b5, Y4⟩ := (Y3.wet (x := nI we)).hour Zk (by omega) sU_s (nI_nem (by omega)) (nI_pos' (by omega))
      refine ⟨(v + cn, A4), (v + cn, B4), ⟨rfl, Y4⟩, ?_, ?_⟩
      · show fX11_years_b37 5000 (fX11_years_h37 5000 f) (nI n) x3 v (nI k) S = _
        unfold fX11_years_b37
        rw [if_neg (nI_ge hk (by omega))]
        unfold fX11_years_b43
        rw [bnd_t (show fX11_draw 5000 7 S = some (nI u, A1) from a1)]
        dsimp only
        rw [bnd_t a2]
        dsimp only
        rw [bnd_t (show fX11_draw 5000 4 A2 = some (nI we, A3) from a3)]
        dsimp only
        rw [bnd_t a4, nI_1]
      · show fX12_years_b61 5000 (fX12_years_h61 5000 f') (nI n) x3 v (nI k) S' = _
        unfold fX12_years_b61
        rw [if_neg (nI_ge hk (by omega))]
        unfold fX12_years_b67
        have hs : fX12_something 5000 S' = some (0, sU B3 99 41 (nI we)) := by
          unfold fX12_something fX12_something_b0
          rw [bnd_t (show fX12_drawOf 5000 7 S' = some (nI u, B1) from b1)]
          dsimp only
          rw [b2]
          unfold fX12_something_b151
          rw [bnd_t (show fX12_drawOf 5000 4 B2 = some (nI we, B3) from b3)]
          rfl
        rw [bnd_t hs]
        dsimp only
        rw [bnd_t b4]
        dsimp only
        rw [bnd_t b5, nI_1]) n 0 (0, sU X2 0 9 x1) (0, sU S2 99 56 x1) 5000 5000 (by omega) ⟨rfl, Y0⟩ (by omega) (by omega)
  refine stSu 5000 5000 rm.1 hJ rfl (Or.inl rfl) ⟨rx, ?_, b3.1, b3.2.1, b3.2.2.1⟩ ⟨rm, ?_, rfl, by rw [← hS1]; exact b3.2.2.2.1, b3.2.2.2.2⟩
  · show fX11_years 5000 x1 (nI n) x3 SX = _
    rw [hX]
    exact b1
  · show fX12_years 5000 x1 (nI n) x3 SM = _
    rw [hM]
    exact b2
end

/-! part 62.agame -/
section
/-! a game -/
noncomputable def quV (Z : gS) (e d : Int32) (h : Nat) (q : qT) : Int32 := nI (cntB (fun k => !trB Z e d (wetZ Z) h q k) 8)
noncomputable def chq (c : Nat) (q : qT) : qT := if c = 1 then cfq q else q
theorem x_quiet {Z SX S : gS} {h g c : Nat} {d : Int32} {qs : Nat → qT} (Zk : tOK Z) (C : cSit 21 Z SX h d qs) (K : qsOK Z (Z 5) qs) (hg : g < tn1 Z) (h9 : h ≤ 999) (hc : c ≤ 1) (h50 : c = 1 → ¬ (qs g).2.1 < 50) (s : oSame xWk SX S) : ∃ S', fX11_quietHours 5000 (nI g) (nI c) S = some (quV Z (Z 5 g) d h (chq c (qs g)), S') ∧ oSame xWk SX S' := by
  have C' := C.on (Or.inl rfl) s
  obtain ⟨X1, b1, b2, b3⟩ := x_begin (N := 5000) (Or.inl rfl) Zk C' hg (by omega)
  have hq : qOK (tn0 Z) (chq c (qs g)) := by
    unfold chq
    by_cases h1 : c = 1
    · rw [if_pos h1]; exact cfq_ok (K.1 g hg) (h50 h1)
    · rw [if_neg h1]; exact K.1 g hg
  have he := K.2.2 g hg
  have loop : ∀ X, wkA X (Z 5 g) d (nI h) (chq c (qs g)) → oSame xWk SX X → ∃ S', fX11_quietHours_h36 5000 5000 0 0 X = some (quV Z (Z 5 g) d h (chq c (qs g)), S') ∧ oSame xWk SX S' := by
    intro X W sX
    have main : Gv (fX11_quietHours_h36 5000 5000 0 0 X) (fun r => r.1 = quV Z (Z 5 g) d h (chq c (qs g)) ∧ oSame xWk SX r.2) := by
      refine loopG (A := gS) (fun f k S => fX11_quietHours_h36 5000 f (nI (cntB (fun k => !trB Z (Z 5 g) d (wetZ Z) h (chq c (qs g)) k) k)) (nI k) S) (fun k S' => wkA S' (Z 5 g) d (nI (h + k)) (trj Z (Z 5 g) d (wetZ Z) h (chq c (qs g)) k) ∧ oSame xWk SX S') _ 8 ?_ ?_ 8 0 X 5000 (by omega) ⟨W, sX⟩ (by omega)
      · rintro f S1 ⟨i1, i2⟩
        exact ⟨(quV Z (Z 5 g) d h (chq c (qs g)), S1), rfl, rfl, i2⟩
      · rintro f k S1 hk ⟨i1, i2⟩
        have hT : tXz (xtw SX) Z S1 := C.1.on xtw_cases i2
        obtain ⟨S2, r1, r2, r3⟩ := x_passHour (N := 5000) (we := wetZ Z (h + k)) xtw_cases Zk hT (trj_ok hq he k) he i1 (by decide)
        rw [nI_1] at r2
        refine Or.inr ⟨S2, ⟨r2, i2.tr r3⟩, ?_⟩
        have hF : fX11_quietHours_h36 5000 (f + 1) (nI (cntB (fun k => !trB Z (Z 5 g) d (wetZ Z) h (chq c (qs g)) k) k)) (nI k) S1 = if iv (trB Z (Z 5 g) d (wetZ Z) h (chq c (qs g)) k) = 0 then fX11_quietHours_b71 5000 (fX11_quietHours_h36 5000 f) (nI (cntB (fun k => !trB Z (Z 5 g) d (wetZ Z) h (chq c (qs g)) k) k)) (nI k) S2 else fX11_quietHours_b74 5000 (fX11_quietHours_h36 5000 f) (nI (cntB (fun k => !trB Z (Z 5 g) d (wetZ Z) h (chq c (qs g)) k) k)) (nI k) S2 := by
          show fX11_quietHours_b36 5000 (fX11_quietHours_h36 5000 f) _ (nI k) S1 = _
          unfold fX11_quietHours_b36
          rw [if_neg (show ¬ (8 : Int32) ≤ nI k from nI_ge (b := 8) hk (by decide))]
          unfold fX11_quietHours_b43
          dsimp only [lt]
          rw [xWk.tw i2, i1.2.2.2.2.2.1, bnd_t (x_wetZ Zk hT (by omega))]
          dsimp only
          rw [bnd_t r1]
          rfl
        show fX11_quietHours_h36 5000 (f + 1) _ (nI k) S1 = fX11_quietHours_h36 5000 f (nI (cntB (fun k => !trB Z (Z 5 g) d (wetZ Z) h (chq c (qs g)) k) k + if (!trB Z (Z 5 g) d (wetZ Z) h (chq c (qs g)) k) = true then 1 else 0)) (nI (k + 1)) S2
        rw [hF]
        cases hb : trB Z (Z 5 g) d (wetZ Z) h (chq c (qs g)) k with
        | false =>
          show fX11_quietHours_b71 5000 (fX11_quietHours_h36 5000 f) (nI (cntB (fun k => !trB Z (Z 5 g) d (wetZ Z) h (chq c (qs g)) k) k)) (nI k) S2 = fX11_quietHours_h36 5000 f (nI (cntB (fun k => !trB Z (Z 5 g) d (wetZ Z) h (chq c (qs g)) k) k + 1)) (nI (k + 1)) S2
          unfold fX11_quietHours_b71 fX11_quietHours_b74
          rw [nI_1, nI_1]
        | true =>
          show fX11_quietHours_b74 5000 (fX11_quietHours_h36 5000 f) (nI (cntB (fun k => !trB Z (Z 5 g) d (wetZ Z) h (chq c (qs g)) k) k)) (nI k) S2 = fX11_quietHours_h36 5000 f (nI (cntB (fun k => !trB Z (Z 5 g) d (wetZ Z) h (chq c (qs g)) k) k)) (nI (k + 1)) S2
          unfold fX11_quietHours_b74
          rw [nI_1]
    obtain ⟨⟨v, S'⟩, r1, r2, r3⟩ := main
    dsimp only at r2 r3
    subst r2
    exact ⟨S', r1, r3⟩
  unfold fX11_quietHours fX11_quietHours_b0
  dsimp only [lt]
  rw [bnd_t b1]
  rcases (show c = 0 ∨ c = 1 by omega) with rfl | rfl
  · exact loop X1 b2 (s.tr b3)
  · obtain ⟨X2, e1, e2, e3⟩ := x_repent (N := 5000) b2
    show ∃ S', fX11_quietHours_b24 5000 X1 = _ ∧ _
    unfold fX11_quietHours_b24
    rw [bnd_t e1]
    exact loop X2 e2 ((s.tr b3).tr e3)
theorem sub_sw (a b c : Int32) : a - b - c = a - c - b := by
  rw [Int32.sub_eq_add_neg, Int32.sub_eq_add_neg, Int32.sub_eq_add_neg, Int32.sub_eq_add_neg, Int32.add_assoc, Int32.add_comm (-b), ← Int32.add_assoc]
/-- what the one with u gains (choice x) against v -/
noncomputable def gnV (u v : Nat → Int32) (x y : Nat) : Int32 := 5 * u x - 6 * nI x - 3 * v y
noncomputable def gst (ok : Bool) (v : Int32) (p : Int32 × Int32) : Int32 × Int32 := if ok = true then (p.1 + 1, if p.2 = -1 then v else p.2) else p
/-- content with choice x, if it may choose -/
noncomputable def ctV (may : Bool) (u v : Nat → Int32) (x y : Nat) : Bool := !may || decide (¬ gnV u v x y < gnV u v (1 - x) y)
noncomputable def okV (ma mb : Bool) (u v : Nat → Int32) (x y : Nat) : Bool := (decide (x = 0) || ma) && ((decide (y = 0) || mb) && (ctV ma u v x y && ctV mb v u y x))
noncomputable def fiV (ma mb : Bool) (u v : Nat → Int32) : Int32 × Int32 := gst (okV ma mb u v 1 1) 11 (gst (okV ma mb u v 1 0) 10 (gst (okV ma mb u v 0 1) 1 (gst (okV ma mb u v 0 0) 0 (0, -1))))
section
variable {Z SX : gS} {h a b : Nat} {d : Int32} {qs : Nat → qT}
noncomputable def mayG (qs : Nat → qT) (g : Nat) : Bool := decide (¬ (qs g).2.1 < 50)
noncomputable def quG (Z : gS) (d : Int32) (h : Nat) (qs : Nat → qT) (g : Nat) (c : Nat) : Int32 := quV Z (Z 5 g) d h (chq c (qs g))
theorem x_mostChoice {S : gS} (Zk : tOK Z) (C : cSit 21 Z SX h d qs) (ha : a < tn1 Z) (s : oSame xWk SX S) : fX11_mostChoice 5000 (nI a) S = some (iv (mayG qs a), S) := by
  have z6 := Zk.2.1.2
  unfold fX11_mostChoice fX11_mostChoice_b0 mayG
  rw [chk_t (inb_t (by omega) (by decide)), nI_clamp (by omega), s 23 a rfl, show SX 23 a = (qs a).2.1 from (C.2.2.2 a ha).2.1]
  by_cases h5 : (qs a).2.1 < 50
  · rw [if_neg (Int32.not_le.mpr h5), decide_eq_false (fun q => q h5)]
    rfl
  · rw [if_pos (Int32.not_lt.mp h5), decide_eq_true h5]
    rfl
theorem x_gain {S : gS} {x y : Nat} (Zk : tOK Z) (C : cSit 21 Z SX h d qs) (K : qsOK Z (Z 5) qs) (ha : a < tn1 Z) (hb : b < tn1 Z) (h9 : h ≤ 999) (hx : x ≤ 1) (hy : y ≤ 1) (mx : x = 1 → mayG qs a = true) (my : y = 1 → mayG qs b = true) (s : oSame xWk SX S) : ∃ S', fX11_gain 5000 (nI a) (nI x) (nI b) (nI y) S = some (gnV (quG Z d h qs a) (quG Z d h qs b) x y, S') ∧ oSame xWk SX S' := by
  obtain ⟨S1, a1, a2⟩ := x_quiet (c := x) Zk C K ha h9 hx (fun q => of_decide_eq_true (mx q)) s
  obtain ⟨S2, b1, b2⟩ := x_quiet (c := y) Zk C K hb h9 hy (fun q => of_decide_eq_true (my q)) a2
  refine ⟨S2, ?_, b2⟩
  unfold fX11_gain fX11_gain_b0
  rw [bnd_t a1]
  dsimp only
  rw [bnd_t b1]
  rfl
theorem x_content {S : gS} {x y : Nat} (Zk : tOK Z) (C : cSit 21 Z SX h d qs) (K : qsOK Z (Z 5) qs) (ha : a < tn1 Z) (hb : b < tn1 Z) (h9 : h ≤ 999) (hx : x ≤ 1) (hy : y ≤ 1) (mx : x = 1 → mayG qs a = true) (my : y = 1 → mayG qs b = true) (s : oSame xWk SX S) : ∃ S', fX11_isContent 5000 (nI a) (nI x) (nI b) (nI y) S = some (iv (ctV (mayG qs a) (quG Z d h qs a) (quG Z d h qs b) x y), S') ∧ oSame xWk SX S' := by
  have e1 : (1 : Int32) - nI x = nI (1 - x) := by rw [show (1 : Int32) = nI 1 from rfl, pk_sub hx]
  unfold fX11_isContent fX11_isContent_b0
  rw [bnd_t (x_mostChoice Zk C ha s), e1]
  cases hm : mayG qs a with
  | false =>
    have hx0 : x = 0 := by
      rcases (show x = 0 ∨ x = 1 by omega) with q | q
      · exact q
      · rw [mx q] at hm; cases hm
    subst hx0
    refine ⟨S, ?_, s⟩
    rfl
  | true =>
    obtain ⟨S1, a1, a2⟩ := x_gain (x := 1 - x) (y := y) Zk C K ha hb h9 (by omega) hy (fun _ => hm) my s
    obtain ⟨S2, b1, b2⟩ := x_gain (x := x) (y := y) Zk C K ha hb h9 hx hy mx my a2
    refine ⟨S2, ?_, b2⟩
    show (if (1 : Int32) < nI (1 - x) then _ else _) = _
    rw [if_neg (show ¬ (1 : Int32) < nI (1 - x) from nI_nlt (a := 1) (by omega) (by decide))]
    unfold fX11_isContent_b15
    rw [bnd_t a1]
    dsimp only
    rw [bnd_t b1]
    show (if gnV (quG Z d h qs a) (quG Z d h qs b) x y < gnV (quG Z d h qs a) (quG Z d h qs b) (1 - x) y then _ else _) = _
    unfold ctV
    by_cases hl : gnV (quG Z d h qs a) (quG Z d h qs b) x y < gnV (quG Z d h qs a) (quG Z d h qs b) (1 - x) y
    · rw [if_pos hl, decide_eq_false (fun q => q hl)]
      rfl
    · rw [if_neg hl, decide_eq_true hl]
      rfl
theorem x_couple {S : gS} {x y : Nat} {x3 : Int32} {p : Int32 × Int32} {r : Int32 → Int32 → Int32 → Int32 → Int32 → Int32 → gS → Option tR} {r' : Int32 → Int32 → Int32 → Int32 → Int32 → Int32 → Int32 → gS → Option tR} (Zk : tOK Z) (C : cSit 21 Z SX h d qs) (K : qsOK Z (Z 5) qs) (ha : a < tn1 Z) (hb : b < tn1 Z) (h9 : h ≤ 999) (hx : x ≤ 1) (hy : y ≤ 1) (mx : x = 1 → mayG qs a = true) (my : y = 1 → mayG qs b = true) (s : oSame xWk SX S) : ∃ S', fX11_game_b63 5000 r r' (nI a) (nI b) x3 p.1 p.2 (nI x) (nI y) S = r' (nI a) (nI b) x3 (gst (okV (mayG qs a) (mayG qs b) (quG Z d h qs a) (quG Z d h qs b) x y) (10 * nI x + nI y) p).1 (gst (okV (mayG qs a) (mayG qs b) (quG Z d h qs a) (quG Z d h qs b) x y) (10 * nI x + nI y) p).2 (nI x) (nI (y + 1)) S' ∧ oSame xWk SX S' := by
  obtain ⟨S1, a1, a2⟩ := x_content (x := x) (y := y) Zk C K ha hb h9 hx hy mx my s
  have hxx : (decide (x = 0) || mayG qs a) = true := by
    rcases (show x = 0 ∨ x = 1 by omega) with q | q
    · rw [q]; rfl
    · rw [mx q, Bool.or_true]
  have hyy : (decide (y = 0) || mayG qs b) = true := by
    rcases (show y = 0 ∨ y = 1 by omega) with q | q
    · rw [q]; rfl
    · rw [my q, Bool.or_true]
  unfold okV
  rw [hxx, hyy, Bool.true_and, Bool.true_and]
  unfold fX11_game_b63
  rw [bnd_t a1]
  cases hc1 : ctV (mayG qs a) (quG Z d h qs a) (quG Z d h qs b) x y with
  | false =>
    refine ⟨S1, ?_, a2⟩
    show fX11_game_b113 5000 r r' (nI a) (nI b) x3 p.1 p.2 (nI x) (nI y) S1 = r' (nI a) (nI b) x3 p.1 p.2 (nI x) (nI (y + 1)) S1
    unfold fX11_game_b113
    rw [nI_1]
  | true =>
    obtain ⟨S2, b1, b2⟩ := x_content (a := b) (b := a) (x := y) (y := x) Zk C K hb ha h9 hy hx my mx a2
    show ∃ S', fX11_game_b76 5000 r r' (nI a) (nI b) x3 p.1 p.2 (nI x) (nI y) S1 = _ ∧ _
    unfold fX11_game_b76
    rw [bnd_t b1]
    cases hc2 : ctV (mayG qs b) (quG Z d h qs b) (quG Z d h qs a) y x with
    | false =>
      refine ⟨S2, ?_, b2⟩
      show fX11_game_b113 5000 r r' (nI a) (nI b) x3 p.1 p.2 (nI x) (nI y) S2 = r' (nI a) (nI b) x3 p.1 p.2 (nI x) (nI (y + 1)) S2
      unfold fX11_game_b113
      rw [nI_1]
    | true =>
      refine ⟨S2, ?_, b2⟩
      show fX11_game_b89 5000 r r' (nI a) (nI b) x3 p.1 p.2 (nI x) (nI y) S2 = r' (nI a) (nI b) x3 (p.1 + 1) (if p.2 = -1 then 10 * nI x + nI y else p.2) (nI x) (nI (y + 1)) S2
      unfold fX11_game_b89
      by_cases h1 : p.2 = -1
      · rw [if_pos h1, if_pos h1]
        unfold fX11_game_b98 fX11_game_b111 fX11_game_b113
        rw [nI_1]
      · rw [if_neg h1, if_neg h1]
        unfold fX11_game_b109 fX11_game_b111 fX11_game_b113
        rw [nI_1]
theorem gst_no {ok : Bool} {v : Int32} {p : Int32 × Int32} (h : ok = false) : gst ok v p = p := by
  unfold gst
  rw [h]
  rfl
/-- the other one's choices, the first one's being x -/
theorem x_row {S : gS} {x : Nat} {x3 : Int32} {p : Int32 × Int32} {r : Int32 → Int32 → Int32 → Int32 → Int32 → Int32 → gS → Option tR} (Zk : tOK Z) (C : cSit 21 Z SX h d qs) (K : qsOK Z (Z 5) qs) (ha : a < tn1 Z) (hb : b < tn1 Z) (h9 : h ≤ 999) (hx : x ≤ 1) (mx : x = 1 → mayG qs a = true) (s : oSame xWk SX S) : ∃ S', fX11_game_b50 5000 r (nI a) (nI b) x3 p.1 p.2 (nI x) S = r (nI a) (nI b) x3 (gst (okV (mayG qs a) (mayG qs b) (quG Z d h qs a) (quG Z d h qs b) x 1) (10 * nI x + nI 1) (gst (okV (mayG qs a) (mayG qs b) (quG Z d h qs a) (quG Z d h qs b) x 0) (10 * nI x + nI 0) p)).1 (gst (okV (mayG qs a) (mayG qs b) (quG Z d h qs a) (quG Z d h qs b) x 1) (10 * nI x + nI 1) (gst (okV (mayG qs a) (mayG qs b) (quG Z d h qs a) (quG Z d h qs b) x 0) (10 * nI x + nI 0) p)).2 (nI (x + 1)) S' ∧ oSame xWk SX S' := by
  obtain ⟨S1, a1, a2⟩ := x_couple (x := x) (y := 0) (x3 := x3) (p := p) (r := r) (r' := fX11_game_h53 5000 r 4999) Zk C K ha hb h9 hx (by omega) mx (fun q => by omega) s
  generalize hp1 : gst (okV (mayG qs a) (mayG qs b) (quG Z d h qs a) (quG Z d h qs b) x 0) (10 * nI x + nI 0) p = p1 at a1 ⊢
  have e1 : fX11_game_b50 5000 r (nI a) (nI b) x3 p.1 p.2 (nI x) S = fX11_game_h53 5000 r 4999 (nI a) (nI b) x3 p1.1 p1.2 (nI x) (nI 1) S1 := by
    show fX11_game_b53 5000 r (fX11_game_h53 5000 r 4999) (nI a) (nI b) x3 p.1 p.2 (nI x) (nI 0) S = _
    unfold fX11_game_b53
    rw [bnd_t (x_mostChoice Zk C hb s)]
    rw [← a1]
    cases mayG qs b <;> rfl
  rw [e1]
  show ∃ S', fX11_game_b53 5000 r (fX11_game_h53 5000 r 4998) (nI a) (nI b) x3 p1.1 p1.2 (nI x) (nI 1) S1 = _ ∧ _
  unfold fX11_game_b53
  rw [bnd_t (x_mostChoice Zk C hb a2)]
  cases hm : mayG qs b with
  | false =>
    rw [gst_no (ok := okV (mayG qs a) false (quG Z d h qs a) (quG Z d h qs b) x 1) (by unfold okV; simp)]
    refine ⟨S1, ?_, a2⟩
    show fX11_game_b119 5000 r (nI a) (nI b) x3 p1.1 p1.2 (nI x) S1 = _
    unfold fX11_game_b119
    rw [nI_1]
  | true =>
    obtain ⟨S2, b1, b2⟩ := x_couple (x := x) (y := 1) (x3 := x3) (p := p1) (r := r) (r' := fX11_game_h53 5000 r 4998) Zk C K ha hb h9 hx (by omega) mx (fun _ => hm) a2
    rw [hm] at b1
    show ∃ S', fX11_game_b63 5000 r (fX11_game_h53 5000 r 4998) (nI a) (nI b) x3 p1.1 p1.2 (nI x) (nI 1) S1 = _ ∧ _
    rw [b1]
    refine ⟨S2, ?_, b2⟩
    show fX11_game_b53 5000 r (fX11_game_h53 5000 r 4997) (nI a) (nI b) x3 _ _ (nI x) (nI 2) S2 = _
    unfold fX11_game_b53
    rw [bnd_t (x_mostChoice Zk C hb b2), hm]
    show fX11_game_b119 5000 r (nI a) (nI b) x3 _ _ (nI x) S2 = _
    unfold fX11_game_b119
    rw [nI_1]
theorem x_game (Zk : tOK Z) (C : cSit 21 Z SX h d qs) (K : qsOK Z (Z 5) qs) (ha : a < tn1 Z) (hb : b < tn1 Z) (h9 : h ≤ 999) {x3 : Int32} : ∃ S', fX11_game_b31 5000 (nI a) (nI b) x3 SX = some (0, (if x3 = 0 then (fiV (mayG qs a) (mayG qs b) (quG Z d h qs a) (quG Z d h qs b)).1 else (fiV (mayG qs a) (mayG qs b) (quG Z d h qs a) (quG Z d h qs b)).2), S') ∧ oSame xWk SX S' := by
  obtain ⟨S1, a1, a2⟩ := x_row (x := 0) (x3 := x3) (p := (0, -1)) (r := fX11_game_h40 5000 4999) Zk C K ha hb h9 (by omega) (fun q => by omega) (oSame.rf (S := SX))
  generalize hp1 : gst (okV (mayG qs a) (mayG qs b) (quG Z d h qs a) (quG Z d h qs b) 0 1) (10 * nI 0 + nI 1) (gst (okV (mayG qs a) (mayG qs b) (quG Z d h qs a) (quG Z d h qs b) 0 0) (10 * nI 0 + nI 0) (0, -1)) = p1 at a1
  have hp1 : gst (okV (mayG qs a) (mayG qs b) (quG Z d h qs a) (quG Z d h qs b) 0 1) 1 (gst (okV (mayG qs a) (mayG qs b) (quG Z d h qs a) (quG Z d h qs b) 0 0) 0 (0, -1)) = p1 := hp1
  have e1 : fX11_game_b31 5000 (nI a) (nI b) x3 SX = fX11_game_h40 5000 4999 (nI a) (nI b) x3 p1.1 p1.2 (nI 1) S1 := by
    show fX11_game_b40 5000 (fX11_game_h40 5000 4999) (nI a) (nI b) x3 0 (-1) (nI 0) SX = _
    unfold fX11_game_b40
    rw [bnd_t (x_mostChoice Zk C ha oSame.rf), ← a1]
    cases mayG qs a <;> rfl
  rw [e1]
  unfold fiV
  rw [hp1]
  show ∃ S', fX11_game_b40 5000 (fX11_game_h40 5000 4998) (nI a) (nI b) x3 p1.1 p1.2 (nI 1) S1 = _ ∧ _
  unfold fX11_game_b40
  rw [bnd_t (x_mostChoice Zk C ha a2)]
  have fin : ∀ (p : Int32 × Int32) (S : gS), fX11_game_b125 5000 x3 p.1 p.2 S = some (0, (if x3 = 0 then p.1 else p.2), S) := by
    intro p S
    unfold fX11_game_b125
    by_cases hx : x3 = 0
    · rw [if_pos hx, if_pos hx]; rfl
    · rw [if_neg hx, if_neg hx]; rfl
  cases hm : mayG qs a with
  | false =>
    rw [gst_no (ok := okV false (mayG qs b) (quG Z d h qs a) (quG Z d h qs b) 1 1) (by unfold okV; simp), gst_no (ok := okV false (mayG qs b) (quG Z d h qs a) (quG Z d h qs b) 1 0) (by unfold okV; simp)]
    exact ⟨S1, fin p1 S1, a2⟩
  | true =>
    obtain ⟨S2, b1, b2⟩ := x_row (x := 1) (x3 := x3) (p := p1) (r := fX11_game_h40 5000 4998) Zk C K ha hb h9 (by omega) (fun _ => hm) a2
    rw [hm] at b1
    show ∃ S', fX11_game_b50 5000 (fX11_game_h40 5000 4998) (nI a) (nI b) x3 p1.1 p1.2 (nI 1) S1 = _ ∧ _
    rw [b1]
    refine ⟨S2, ?_, b2⟩
    show fX11_game_b40 5000 (fX11_game_h40 5000 4997) (nI a) (nI b) x3 _ _ (nI 2) S2 = _
    unfold fX11_game_b40
    rw [bnd_t (x_mostChoice Zk C ha b2), hm]
    exact fin (gst (okV true (mayG qs b) (quG Z d h qs a) (quG Z d h qs b) 1 1) 11 (gst (okV true (mayG qs b) (quG Z d h qs a) (quG Z d h qs b) 1 0) 10 p1)) S2
end
end

/-! part 63.agame -/
section
/-! the reference's game -/
theorem qsH.up {Z : gS} {g : Nat} {qs : Nat → qT} {q : qT} (K : qsH Z qs) (hg : g < tn1 Z) (e : q.2.2.2 = (qs g).2.2.2) : qsH Z (upq qs g q) := by
  obtain ⟨k1, k2⟩ := K
  have key : ∀ g', (upq qs g q g').2.2.2 = (qs g').2.2.2 := by
    intro g'
    by_cases hh : g' = g
    · rw [hh, upq_s]; exact e
    · rw [upq_n hh]
  refine ⟨fun g' hg' => ?_, fun x y hx hy => ?_⟩
  · unfold hOK
    rw [key g']
    exact k1 g' hg'
  · rw [key x, key y]
    exact k2 x y hx hy
noncomputable def qsC (qs : Nat → qT) (a b x y : Nat) : Nat → qT := fun g => if g = a then chq x (qs a) else if g = b then chq y (qs b) else qs g
section
variable {Z S1 S2 : gS} {h a b : Nat} {d : Int32} {e : Nat → Int32} {qs : Nat → qT}
theorem m_qsC {S : gS} {x y : Nat} {r : Int32 → Int32 → Int32 → gS → Option (Int32 × gS)} (Zk : tOK Z) (K : qsH Z qs) (ha : a < tn1 Z) (hb : b < tn1 Z) (hab : a ≠ b) (hx : x ≤ 1) (hy : y ≤ 1) (M : mSit Z S h d e qs) : ∃ S', fX12_tellGains_b16 5000 r (nI a) (nI b) (nI (2 * x + y)) S = fX12_tellGains_b40 5000 r (nI a) (nI b) (nI (2 * x + y)) S' ∧ mSit Z S' h d e (qsC qs a b x y) ∧ qsH Z (qsC qs a b x y) ∧ oSame mHo S S' := by
  have z6 := Zk.2.1.2
  have e2 : nI (2 * x + y) / 2 = nI x := by rw [show (2 : Int32) = nI 2 from rfl, pk_div (by omega) (by decide) (by decide), show (2 * x + y) / 2 = x by omega]
  have em : nI (2 * x + y) - nI (2 * x + y) / 2 * 2 = nI y := by rw [show (2 : Int32) = nI 2 from rfl, pk_rem (by omega) (by decide) (by decide), show (2 * x + y) % 2 = y by omega]
  have st1 : ∃ A, fX12_tellGains_b16 5000 r (nI a) (nI b) (nI (2 * x + y)) S = fX12_tellGains_b28 5000 r (nI a) (nI b) (nI (2 * x + y)) A ∧ mSit Z A h d e (upq qs a (chq x (qs a))) ∧ oSame mHo S A := by
    unfold fX12_tellGains_b16
    rw [e2]
    rcases (show x = 0 ∨ x = 1 by omega) with rfl | rfl
    · refine ⟨S, rfl, ?_, oSame.rf⟩
      have : upq qs a (chq 0 (qs a)) = qs := by
        funext g
        by_cases hh : g = a
        · rw [hh, upq_s]; rfl
        · rw [upq_n hh]
      rw [this]
      exact M
    · obtain ⟨A, a1, a2, a3⟩ := m_doConfess (N := 5000) Zk M ha
      refine ⟨A, ?_, a2, mHo_of (g := a) (by omega) (fun i j hij => a3 i j (by omega))⟩
      show fX12_tellGains_b23 5000 r (nI a) (nI b) _ S = _
      unfold fX12_tellGains_b23
      rw [bnd_t a1]
  obtain ⟨A, a1, a2, a3⟩ := st1
  have hK1 : qsH Z (upq qs a (chq x (qs a))) := K.up ha (by
    unfold chq
    by_cases h1 : x = 1
    · rw [if_pos h1]; rfl
    · rw [if_neg h1])
  have eb : upq qs a (chq x (qs a)) b = qs b := upq_n (Ne.symm hab)
  have eC : upq (upq qs a (chq x (qs a))) b (chq y (qs b)) = qsC qs a b x y := by
    funext g
    unfold qsC
    by_cases h1 : g = a
    · rw [if_pos h1, h1, upq_n hab, upq_s]
    · rw [if_neg h1]
      by_cases h2 : g = b
      · rw [if_pos h2, h2, upq_s]
      · rw [if_neg h2, upq_n h2, upq_n h1]
  have hK2 : qsH Z (qsC qs a b x y) := by
    rw [← eC]
    refine hK1.up hb ?_
    rw [eb]
    unfold chq
    by_cases h1 : y = 1
    · rw [if_pos h1]; rfl
    · rw [if_neg h1]
  rw [a1]
  unfold fX12_tellGains_b28
  rw [em]
  rcases (show y = 0 ∨ y = 1 by omega) with rfl | rfl
  · refine ⟨A, rfl, ?_, hK2, a3⟩
    rw [← eC]
    have : upq (upq qs a (chq x (qs a))) b (chq 0 (qs b)) = upq qs a (chq x (qs a)) := by
      funext g
      by_cases hh : g = b
      · rw [hh, upq_s, eb]; rfl
      · rw [upq_n hh]
    rw [this]
    exact a2
  · obtain ⟨B, b1, b2, b3⟩ := m_doConfess (N := 5000) Zk a2 hb
    refine ⟨B, ?_, ?_, hK2, a3.tr (mHo_of (g := b) (by omega) (fun i j hij => b3 i j (by omega)))⟩
    · show fX12_tellGains_b35 5000 r (nI a) (nI b) _ A = _
      unfold fX12_tellGains_b35
      rw [bnd_t b1]
    · rw [← eC]
      rw [eb] at b2
      exact b2
noncomputable def quW (Z : gS) (d : Int32) (e : Nat → Int32) (h : Nat) (qs : Nat → qT) (g : Nat) (c : Nat) : Int32 := quV Z (e g) d h (chq c (qs g))
theorem cntB_s {c : Nat → Bool} {k : Nat} : nI (cntB c (k + 1)) = nI (cntB c k) + (if c k = true then 1 else 0) := by
  show nI (cntB c k + if c k = true then 1 else 0) = _
  by_cases h : c k = true
  · rw [if_pos h, if_pos h, nI_1]
  · rw [if_neg h, if_neg h, Int32.add_zero]; rfl
/-- a WEEK, and what is gained in it -/
theorem m_week {S : gS} {x y : Nat} {r : Int32 → Int32 → Int32 → gS → Option (Int32 × gS)} (Zk : tOK Z) (ha : a < tn1 Z) (hb : b < tn1 Z) (hab : a ≠ b) (h9 : h ≤ 999) (hx : x ≤ 1) (hy : y ≤ 1) (M : mSit Z S h d e (qsC qs a b x y)) (K : qsH Z (qsC qs a b x y)) (w41 : S 99 41 = -1) : ∃ S', fX12_tellGains_b40 5000 r (nI a) (nI b) (nI (2 * x + y)) S = bnd (fX12_unpack 5000 46 0 (sU (sU S' 55 (2 * (2 * x + y)) (gnV (quW Z d e h qs a) (quW Z d e h qs b) x y)) 55 (2 * (2 * x + y) + 1) (gnV (quW Z d e h qs b) (quW Z d e h qs a) y x))) (fun q1 => r (nI a) (nI b) (nI (2 * x + y + 1)) q1.2) ∧ oSame mHo S S' := by
  have z6 := Zk.2.1.2
  have ea : qsC qs a b x y a = chq x (qs a) := if_pos rfl
  have ebb : qsC qs a b x y b = chq y (qs b) := by
    unfold qsC
    rw [if_neg (Ne.symm hab), if_pos rfl]
  suffices L : ∀ (m k fuel : Nat) (S1 : gS), k + m = 8 → m < fuel → mSit Z S1 (h + k) d e (fun g => trj Z (e g) d (wetZ Z) h (qsC qs a b x y g) k) → oSame mHo S S1 → ∃ S', fX12_tellGains_h49 5000 r fuel (nI a) (nI b) (nI (2 * x + y)) (nI (cntB (fun k => !trB Z (e a) d (wetZ Z) h (chq x (qs a)) k) k)) (nI (cntB (fun k => !trB Z (e b) d (wetZ Z) h (chq y (qs b)) k) k)) (nI k) S1 = bnd (fX12_unpack 5000 46 0 (sU (sU S' 55 (2 * (2 * x + y)) (gnV (quW Z d e h qs a) (quW Z d e h qs b) x y)) 55 (2 * (2 * x + y) + 1) (gnV (quW Z d e h qs b) (quW Z d e h qs a) y x))) (fun q1 => r (nI a) (nI b) (nI (2 * x + y + 1)) q1.2) ∧ oSame mHo S S' from L 8 0 5000 S (by omega) (by omega) M oSame.rf
  intro m
  induction m with
  | zero =>
    intro k fuel S1 h1 h2 M1 s
    obtain ⟨f, rfl⟩ : ∃ f, fuel = f + 1 := ⟨fuel - 1, by omega⟩
    have : k = 8 := by omega
    subst this
    refine ⟨S1, ?_, s⟩
    show fX12_tellGains_b108 5000 r (nI a) (nI b) (nI (2 * x + y)) (quW Z d e h qs a x) (quW Z d e h qs b y) S1 = _
    unfold fX12_tellGains_b108
    have e2 : nI (2 * x + y) / 2 = nI x := by rw [show (2 : Int32) = nI 2 from rfl, pk_div (by omega) (by decide) (by decide), show (2 * x + y) / 2 = x by omega]
    have em : nI (2 * x + y) - nI (2 * x + y) / 2 * 2 = nI y := by rw [show (2 : Int32) = nI 2 from rfl, pk_rem (by omega) (by decide) (by decide), show (2 * x + y) % 2 = y by omega]
    have e4 : (2 : Int32) * nI (2 * x + y) = nI (2 * (2 * x + y)) := by rw [show (2 : Int32) = nI 2 from rfl, pk_mul]
    dsimp only [lt]
    rw [em, e2, e4, nI_1, nI_1, chk_t (inb_t (by omega) (by decide)), chk_t (inb_t (by omega) (by decide)), nI_clamp (n := 2 * (2 * x + y)) (by omega), nI_clamp (n := 2 * (2 * x + y) + 1) (by omega)]
    unfold gnV
    rw [sub_sw (5 * quW Z d e h qs a x), sub_sw (5 * quW Z d e h qs b y)]
  | succ m ih =>
    intro k fuel S1 h1 h2 M1 s
    obtain ⟨f, rfl⟩ : ∃ f, fuel = f + 1 := ⟨fuel - 1, by omega⟩
    obtain ⟨S2, r1, r2, r3, r4⟩ := m_step1 (N := 5000) Zk (K.tr (wf := wetZ Z) (h := h) (d := d) (e := e) k) (by omega) (by decide) M1 (by rw [s 99 41 rfl]; exact w41)
    obtain ⟨S', e1, e2⟩ := ih (k + 1) f S2 (by omega) (by omega) r2 (s.tr r4)
    refine ⟨S', ?_, e2⟩
    rw [← e1]
    have ba : bt (S2 99 45) (nI a) = trB Z (e a) d (wetZ Z) h (chq x (qs a)) k := by
      rw [r3, silent_bt z6 ha, ea]
      rfl
    have bb' : bt (S2 99 45) (nI b) = trB Z (e b) d (wetZ Z) h (chq y (qs b)) k := by
      rw [r3, silent_bt z6 hb, ebb]
      rfl
    show fX12_tellGains_b49 5000 r (fX12_tellGains_h49 5000 r f) (nI a) (nI b) (nI (2 * x + y)) _ _ (nI k) S1 = _
    unfold fX12_tellGains_b49
    rw [if_neg (show ¬ (8 : Int32) ≤ nI k from nI_ge (b := 8) (by omega) (by decide))]
    unfold fX12_tellGains_b56
    rw [bnd_t r1]
    dsimp only
    rw [bnd_t m_isOf, ba, cntB_s, cntB_s]
    cases trB Z (e a) d (wetZ Z) h (chq x (qs a)) k with
    | false =>
      show fX12_tellGains_b78 5000 r (fX12_tellGains_h49 5000 r f) (nI a) (nI b) (nI (2 * x + y)) _ (nI k) _ 1 S2 = _
      unfold fX12_tellGains_b78
      rw [bnd_t m_isOf, bb']
      cases trB Z (e b) d (wetZ Z) h (chq y (qs b)) k with
      | false =>
        show fX12_tellGains_h49 5000 r f (nI a) (nI b) (nI (2 * x + y)) _ _ (nI k + 1) S2 = _
        rw [nI_1 k]
        rfl
      | true =>
        show fX12_tellGains_h49 5000 r f (nI a) (nI b) (nI (2 * x + y)) _ _ (nI k + 1) S2 = _
        rw [nI_1 k]
        rfl
    | true =>
      show fX12_tellGains_b78 5000 r (fX12_tellGains_h49 5000 r f) (nI a) (nI b) (nI (2 * x + y)) _ (nI k) _ 0 S2 = _
      unfold fX12_tellGains_b78
      rw [bnd_t m_isOf, bb']
      cases trB Z (e b) d (wetZ Z) h (chq y (qs b)) k with
      | false =>
        show fX12_tellGains_h49 5000 r f (nI a) (nI b) (nI (2 * x + y)) _ _ (nI k + 1) S2 = _
        rw [nI_1 k]
        rfl
      | true =>
        show fX12_tellGains_h49 5000 r f (nI a) (nI b) (nI (2 * x + y)) _ _ (nI k + 1) S2 = _
        rw [nI_1 k]
        rfl
theorem m_tellGains (Zk : tOK Z) (K : qsH Z qs) (ha : a < tn1 Z) (hb : b < tn1 Z) (hab : a ≠ b) (h9 : h ≤ 999) (M : mSit Z S1 h d e qs) (w41 : S1 99 41 = -1) (c0 : S1 99 4 = 0) : ∃ S', fX12_tellGains 5000 (nI a) (nI b) S1 = some (0, S') ∧ mSame S1 S' ∧ S' 99 4 = 0 ∧ ∀ x y, x ≤ 1 → y ≤ 1 → S' 55 (2 * (2 * x + y)) = gnV (quW Z d e h qs a) (quW Z d e h qs b) x y ∧ S' 55 (2 * (2 * x + y) + 1) = gnV (quW Z d e h qs b) (quW Z d e h qs a) y x := by
  obtain ⟨S2, k1, k2, k3, k5, k7, k6, k4⟩ := q_go M w41 c0
  have main : Gv (fX12_tellGains_h11 5000 5000 (nI a) (nI b) 0 S2) (fun r => r.1 = 0 ∧ mSame S1 r.2 ∧ r.2 99 4 = 0 ∧ ∀ x y, x ≤ 1 → y ≤ 1 → r.2 55 (2 * (2 * x + y)) = gnV (quW Z d e h qs a) (quW Z d e h qs b) x y ∧ r.2 55 (2 * (2 * x + y) + 1) = gnV (quW Z d e h qs b) (quW Z d e h qs a) y x) := by
    refine loopG (A := gS) (fun f c S => fX12_tellGains_h11 5000 f (nI a) (nI b) (nI c) S) (fun c S => mSame S1 S ∧ S 99 4 = 0 ∧ (∀ j, S 46 j = S2 46 j) ∧ ∀ x y, x ≤ 1 → y ≤ 1 → 2 * x + y < c → S 55 (2 * (2 * x + y)) = gnV (quW Z d e h qs a) (quW Z d e h qs b) x y ∧ S 55 (2 * (2 * x + y) + 1) = gnV (quW Z d e h qs b) (quW Z d e h qs a) y x) _ 4 ?_ ?_ 4 0 S2 5000 (by omega) ⟨k5, k7, fun _ => rfl, fun x y _ _ h => by omega⟩ (by omega)
    · rintro f S ⟨i1, i2, i3, i4⟩
      exact ⟨(0, S), rfl, rfl, i1, i2, fun x y hx hy => i4 x y hx hy (by omega)⟩
    · rintro f c S hc ⟨i1, i2, i3, i4⟩
      refine Or.inr ?_
      obtain ⟨x, y, hx, hy, rfl⟩ : ∃ x y, x ≤ 1 ∧ y ≤ 1 ∧ c = 2 * x + y := ⟨c / 2, c % 2, by omega, by omega, by omega⟩
      have M' := M.on i1
      obtain ⟨A, a1, a2, a3, a4⟩ := m_qsC (x := x) (y := y) (r := fX12_tellGains_h11 5000 f) Zk K ha hb hab hx hy M'
      obtain ⟨B, b1, b2⟩ := m_week (x := x) (y := y) (r := fX12_tellGains_h11 5000 f) Zk ha hb hab h9 hx hy a2 a3 (by rw [a4 99 41 rfl, i1 99 41 rfl]; exact w41)
      obtain ⟨G, hG⟩ : ∃ z, z = sU (sU B 55 (2 * (2 * x + y)) (gnV (quW Z d e h qs a) (quW Z d e h qs b) x y)) 55 (2 * (2 * x + y) + 1) (gnV (quW Z d e h qs b) (quW Z d e h qs a) y x) := ⟨_, rfl⟩
      have g1 : ∀ i j, ¬ (i = 55 ∧ (j = 2 * (2 * x + y) ∨ j = 2 * (2 * x + y) + 1)) → G i j = B i j := fun i j hij => by rw [hG, sU_n (by omega), sU_n (by omega)]
      have sB : oSame mHo S B := a4.tr b2
      have sG : oSame mQ S1 G := fun i j hij => by
        rw [g1 i j (fun q => by rw [q.1] at hij; cases hij)]
        exact (i1.q.tr sB.q) i j hij
      obtain ⟨S4, u1, u2, u3, u4⟩ := k6 G (fun j => by rw [g1 46 j (by omega), sB 46 j rfl]; exact i3 j) sG
      rw [← hG] at b1
      have e55 : ∀ j, S4 55 j = G 55 j := fun j => u4 55 j
      refine ⟨S4, ⟨u2, ?_, fun j => ?_, fun x' y' hx' hy' hl => ?_⟩, ?_⟩
      · rw [u3, g1 99 4 (by omega), sB 99 4 rfl]; exact i2
      · rw [u4 46 j]
        show G 46 j = _
        rw [g1 46 j (by omega), sB 46 j rfl]; exact i3 j
      · rw [e55, e55]
        by_cases hh : 2 * x' + y' = 2 * x + y
        · have ex : x' = x := by omega
          have ey : y' = y := by omega
          subst ex ey
          refine ⟨?_, ?_⟩
          · rw [hG, sU_n (by omega), sU_s]
          · rw [hG, sU_s]
        · rw [g1 _ _ (by omega), g1 _ _ (by omega), sB 55 _ rfl, sB 55 _ rfl]
          exact i4 x' y' hx' hy' (by omega)
      · show fX12_tellGains_b11 5000 (fX12_tellGains_h11 5000 f) (nI a) (nI b) (nI (2 * x + y)) S = _
        unfold fX12_tellGains_b11
        rw [if_neg (show ¬ (4 : Int32) ≤ nI (2 * x + y) from nI_ge (b := 4) hc (by decide)), a1, b1, bnd_t u1]
  obtain ⟨⟨v, S'⟩, r1, r2, r3⟩ := main
  dsimp only at r2 r3
  subst r2
  refine ⟨S', ?_, r3⟩
  unfold fX12_tellGains fX12_tellGains_b0
  rw [bnd_t k1]
  exact r1
end
theorem okV_eq {ma mb : Bool} {u v : Nat → Int32} {x y : Nat} : okV ma mb u v x y = ((decide (x = 0) || ma) && ((decide (y = 0) || mb) && (ctV ma u v x y && ctV mb v u y x))) := rfl
theorem xor_12 : ∀ x, x < 2 → ∀ y, y < 2 → (nI (2 * x + y)) ^^^ 1 = nI (2 * x + (1 - y)) ∧ (nI (2 * x + y)) ^^^ 2 = nI (2 * (1 - x) + y) := by decide +kernel
theorem dbl (c : Nat) : (2 : Int32) * nI c = nI (2 * c) := by rw [show (2 : Int32) = nI 2 from rfl, pk_mul]
section
variable {S : gS} {x y : Nat} {x3 : Int32} {ma mb : Bool} {u v : Nat → Int32} {p : Int32 × Int32} {r : Int32 → Int32 → Int32 → Int32 → Int32 → Int32 → gS → Option (Int32 × gS)}
theorem half2 (hx : x ≤ 1) (hy : y ≤ 1) : nI (2 * x + y) / 2 = nI x ∧ nI (2 * x + y) - nI (2 * x + y) / 2 * 2 = nI y := by
  refine ⟨?_, ?_⟩
  · rw [show (2 : Int32) = nI 2 from rfl, pk_div (by omega) (by decide) (by decide), show (2 * x + y) / 2 = x by omega]
  · rw [show (2 : Int32) = nI 2 from rfl, pk_rem (by omega) (by decide) (by decide), show (2 * x + y) % 2 = y by omega]
theorem m_sk {c : Nat} {a b e f : Int32} : fX12_game_b202 5000 r x3 a b e f (nI c) S = r x3 a b e f (nI (c + 1)) S := by
  unfold fX12_game_b202
  rw [nI_1]
theorem m_take {a b : Int32} (hx : x ≤ 1) (hy : y ≤ 1) : fX12_game_b174 5000 r x3 a b p.1 p.2 (nI (2 * x + y)) S = r x3 a b (p.1 + 1) (if p.2 = -1 then 10 * nI x + nI y else p.2) (nI (2 * x + y + 1)) S := by
  obtain ⟨e2, em⟩ := half2 hx hy
  unfold fX12_game_b174
  by_cases h1 : p.2 = -1
  · rw [if_pos h1, if_pos h1]
    unfold fX12_game_b183 fX12_game_b200
    rw [em, e2, m_sk]
  · rw [if_neg h1, if_neg h1]
    unfold fX12_game_b198 fX12_game_b200
    rw [m_sk]
theorem gst_t {v : Int32} : gst true v p = (p.1 + 1, if p.2 = -1 then v else p.2) := rfl
theorem gst_f {v : Int32} : gst false v p = p := rfl
theorem ctV_f : ctV false u v x y = true := rfl
theorem ctV_t : ctV true u v x y = decide (¬ gnV u v x y < gnV u v (1 - x) y) := rfl
theorem m_cb {a : Int32} (hx : x ≤ 1) (hy : y ≤ 1) (G : ∀ x y, x ≤ 1 → y ≤ 1 → S 55 (2 * (2 * x + y)) = gnV u v x y ∧ S 55 (2 * (2 * x + y) + 1) = gnV v u y x) : fX12_game_b139 5000 r x3 a (iv mb) p.1 p.2 (nI (2 * x + y)) S = r x3 a (iv mb) (gst (ctV mb v u y x) (10 * nI x + nI y) p).1 (gst (ctV mb v u y x) (10 * nI x + nI y) p).2 (nI (2 * x + y + 1)) S := by
  unfold fX12_game_b139
  cases mb with
  | false =>
    rw [if_pos (show iv false = 0 from rfl), m_take hx hy, ctV_f, gst_t]
  | true =>
    rw [if_neg (show ¬ iv true = 0 by decide)]
    unfold fX12_game_b144
    rw [(xor_12 x (by omega) y (by omega)).1, dbl, dbl, nI_1, nI_1, chk_t (inb_t (by omega) (by decide)), chk_t (inb_t (by omega) (by decide)), nI_clamp (by omega), nI_clamp (by omega), (G x (1 - y) hx (by omega)).2, (G x y hx hy).2, ctV_t]
    by_cases hl : gnV v u (1 - y) x ≤ gnV v u y x
    · rw [if_pos hl, decide_eq_true (Int32.not_lt.mpr hl), m_take hx hy, gst_t]
    · rw [if_neg hl, decide_eq_false (fun q => q (Int32.not_le.mp hl)), gst_f]
      unfold fX12_game_b171
      rw [m_sk]
theorem m_ca (hx : x ≤ 1) (hy : y ≤ 1) (G : ∀ x y, x ≤ 1 → y ≤ 1 → S 55 (2 * (2 * x + y)) = gnV u v x y ∧ S 55 (2 * (2 * x + y) + 1) = gnV v u y x) : fX12_game_b111 5000 r x3 (iv ma) (iv mb) p.1 p.2 (nI (2 * x + y)) S = r x3 (iv ma) (iv mb) (gst (ctV ma u v x y && ctV mb v u y x) (10 * nI x + nI y) p).1 (gst (ctV ma u v x y && ctV mb v u y x) (10 * nI x + nI y) p).2 (nI (2 * x + y + 1)) S := by
  unfold fX12_game_b111
  cases ma with
  | false =>
    rw [if_pos (show iv false = 0 from rfl), m_cb hx hy G, ctV_f, Bool.true_and]
  | true =>
    rw [if_neg (show ¬ iv true = 0 by decide)]
    unfold fX12_game_b116
    rw [(xor_12 x (by omega) y (by omega)).2, dbl, dbl, chk_t (inb_t (by omega) (by decide)), chk_t (inb_t (by omega) (by decide)), nI_clamp (by omega), nI_clamp (by omega), (G (1 - x) y (by omega) hy).1, (G x y hx hy).1, ctV_t]
    by_cases hl : gnV u v x y < gnV u v (1 - x) y
    · rw [if_pos hl, decide_eq_false (fun q => q hl), Bool.false_and, m_sk, gst_f]
    · rw [if_neg hl, decide_eq_true hl, Bool.true_and, m_cb hx hy G]
theorem m_st2 (hx : x ≤ 1) (hy : y ≤ 1) (G : ∀ x y, x ≤ 1 → y ≤ 1 → S 55 (2 * (2 * x + y)) = gnV u v x y ∧ S 55 (2 * (2 * x + y) + 1) = gnV v u y x) : fX12_game_b95 5000 r x3 (iv ma) (iv mb) p.1 p.2 (nI (2 * x + y)) S = r x3 (iv ma) (iv mb) (gst ((decide (y = 0) || mb) && (ctV ma u v x y && ctV mb v u y x)) (10 * nI x + nI y) p).1 (gst ((decide (y = 0) || mb) && (ctV ma u v x y && ctV mb v u y x)) (10 * nI x + nI y) p).2 (nI (2 * x + y + 1)) S := by
  obtain ⟨e2, em⟩ := half2 hx hy
  unfold fX12_game_b95
  rw [em]
  by_cases hy0 : y = 0
  · rw [if_neg (by rw [hy0]; decide), decide_eq_true hy0, Bool.true_or, Bool.true_and]
    exact m_ca hx hy G
  · have hy1 : y = 1 := by omega
    rw [if_pos (by rw [hy1]; rfl), decide_eq_false hy0, Bool.false_or]
    unfold fX12_game_b103
    cases mb with
    | false =>
      rw [if_pos (show iv false = 0 from rfl), Bool.false_and, gst_f]
      unfold fX12_game_b108
      rw [m_sk]
    | true =>
      rw [if_neg (show ¬ iv true = 0 by decide), Bool.true_and]
      exact m_ca hx hy G
/-- one couple in the reference's last loop -/
theorem m_couple (hx : x ≤ 1) (hy : y ≤ 1) (G : ∀ x y, x ≤ 1 → y ≤ 1 → S 55 (2 * (2 * x + y)) = gnV u v x y ∧ S 55 (2 * (2 * x + y) + 1) = gnV v u y x) : fX12_game_b82 5000 r x3 (iv ma) (iv mb) p.1 p.2 (nI (2 * x + y)) S = r x3 (iv ma) (iv mb) (gst (okV ma mb u v x y) (10 * nI x + nI y) p).1 (gst (okV ma mb u v x y) (10 * nI x + nI y) p).2 (nI (2 * x + y + 1)) S := by
  obtain ⟨e2, em⟩ := half2 hx hy
  unfold fX12_game_b82
  rw [e2, okV_eq]
  by_cases hx0 : x = 0
  · rw [if_neg (by rw [hx0]; decide), decide_eq_true hx0, Bool.true_or, Bool.true_and]
    exact m_st2 hx hy G
  · have hx1 : x = 1 := by omega
    rw [if_pos (by rw [hx1]; rfl), decide_eq_false hx0, Bool.false_or]
    unfold fX12_game_b90
    cases ma with
    | false =>
      rw [if_pos (show iv false = 0 from rfl), Bool.false_and, gst_f, m_sk]
    | true =>
      rw [if_neg (show ¬ iv true = 0 by decide), Bool.true_and]
      exact m_st2 hx hy G
end
theorem st_game : Lw_game JJ := by
  intro SX SM x1 x2 x3 hJ
  obtain ⟨S1, Z, h, qs, hS1, c0, hJ1, Zk, h9, C, M, K, w41, x0, x5⟩ := pre hJ
  have z6 := Zk.2.1.2
  have hF : fX12_game 5000 x1 x2 x3 SM = if iv (inb x1 (tn1 Z)) = 0 then fX12_game_b30 5000 S1 else if iv (inb x2 (tn1 Z)) = 0 then fX12_game_b30 5000 S1 else fX12_game_b21 5000 x1 x2 x3 S1 := by
    unfold fX12_game fX12_game_b0
    dsimp only [lt]
    rw [← hS1, bnd_t (m_isGuild M.1.2.1 (by omega))]
    unfold fX12_game_b13
    rw [bnd_t (m_isGuild M.1.2.1 (by omega))]
  cases h1 : inb x1 (tn1 Z) with
  | false =>
    refine stFl 5000 5000 1 hJ one_ne (Or.inr (Or.inl rfl)) (ngF x5 (by omega) h1) ?_
    show fX12_game 5000 x1 x2 x3 SM = _
    rw [hF, h1, ← hS1]
    rfl
  | true =>
  cases h2 : inb x2 (tn1 Z) with
  | false =>
    refine stFl 5000 5000 1 hJ one_ne (Or.inr (Or.inl rfl)) ((ngT x5 (by omega) h1).trans (ngF x5 (by omega) h2)) ?_
    show fX12_game 5000 x1 x2 x3 SM = _
    rw [hF, h1, h2, ← hS1]
    rfl
  | true =>
  have hF2 : fX12_game 5000 x1 x2 x3 SM = fX12_game_b21 5000 x1 x2 x3 S1 := by
    rw [hF, h1, h2]
    rfl
  cases h3 : wth x3 0 1 with
  | false =>
    refine stFl 5000 5000 1 hJ one_ne (Or.inr (Or.inl rfl)) (((ngT x5 (by omega) h1).trans (ngT x5 (by omega) h2)).trans (nwF h3)) ?_
    show fX12_game 5000 x1 x2 x3 SM = _
    rw [hF2, ← hS1]
    unfold fX12_game_b21
    rcases w01F h3 with q | ⟨q1, q2⟩
    · rw [if_pos q]
      rfl
    · rw [if_neg q1]
      unfold fX12_game_b25
      rw [if_neg q2]
      rfl
  | true =>
  obtain ⟨y1, y2, -⟩ := w01T h3
  have hG : fX12_game 5000 x1 x2 x3 SM = if x1 = x2 then fX12_game_b41 5000 S1 else fX12_game_b47 5000 x1 x2 x3 S1 := by
    rw [hF2]
    unfold fX12_game_b21
    rw [if_neg y1]
    unfold fX12_game_b25
    rw [if_pos y2]
    rfl
  have hX : fX11_game 5000 x1 x2 x3 SX = if x1 = x2 then fX11_game_b20 5000 SX else fX11_game_b31 5000 x1 x2 x3 SX := ((ngT x5 (by omega) h1).trans (ngT x5 (by omega) h2)).trans (nwT h3)
  by_cases h12 : x1 = x2
  · refine stFl 5000 5000 2 hJ two_ne (Or.inr (Or.inr rfl)) ?_ ?_
    · show fX11_game 5000 x1 x2 x3 SX = _
      rw [hX, if_pos h12]
      rfl
    · show fX12_game 5000 x1 x2 x3 SM = _
      rw [hG, if_pos h12, ← hS1]
      rfl
  obtain ⟨a, ha, rfl⟩ := inb_of h1 (by omega)
  obtain ⟨b, hb, rfl⟩ := inb_of h2 (by omega)
  have hab : a ≠ b := fun q => h12 (by rw [q])
  obtain ⟨X2, p1, p2⟩ := x_game (x3 := x3) Zk C K ha hb h9
  obtain ⟨S3, r1, r2, r3, r4⟩ := m_tellGains Zk K.h ha hb hab h9 M w41 c0
  have hl : ∀ (x y : Nat) (f : Nat) (p : Int32 × Int32), x ≤ 1 → y ≤ 1 → fX12_game_h76 5000 (f + 1) x3 (iv (mayG qs a)) (iv (mayG qs b)) p.1 p.2 (nI (2 * x + y)) S3 = fX12_game_h76 5000 f x3 (iv (mayG qs a)) (iv (mayG qs b)) (gst (okV (mayG qs a) (mayG qs b) (quG Z (SX 21 1) h qs a) (quG Z (SX 21 1) h qs b) x y) (10 * nI x + nI y) p).1 (gst (okV (mayG qs a) (mayG qs b) (quG Z (SX 21 1) h qs a) (quG Z (SX 21 1) h qs b) x y) (10 * nI x + nI y) p).2 (nI (2 * x + y + 1)) S3 := by
    intro x y f p hx hy
    show fX12_game_b76 5000 (fX12_game_h76 5000 f) x3 _ _ p.1 p.2 (nI (2 * x + y)) S3 = _
    unfold fX12_game_b76
    rw [if_neg (show ¬ (4 : Int32) ≤ nI (2 * x + y) from nI_ge (b := 4) (by omega) (by decide))]
    exact m_couple hx hy r4
  refine stSu 5000 5000 (if x3 = 0 then (fiV (mayG qs a) (mayG qs b) (quG Z (SX 21 1) h qs a) (quG Z (SX 21 1) h qs b)).1 else (fiV (mayG qs a) (mayG qs b) (quG Z (SX 21 1) h qs a) (quG Z (SX 21 1) h qs b)).2) hJ rfl (Or.inl rfl) ⟨(0, (if x3 = 0 then (fiV (mayG qs a) (mayG qs b) (quG Z (SX 21 1) h qs a) (quG Z (SX 21 1) h qs b)).1 else (fiV (mayG qs a) (mayG qs b) (quG Z (SX 21 1) h qs a) (quG Z (SX 21 1) h qs b)).2), X2), ?_, rfl, rfl, xWk.same p2⟩ ⟨((if x3 = 0 then (fiV (mayG qs a) (mayG qs b) (quG Z (SX 21 1) h qs a) (quG Z (SX 21 1) h qs b)).1 else (fiV (mayG qs a) (mayG qs b) (quG Z (SX 21 1) h qs a) (quG Z (SX 21 1) h qs b)).2), S3), ?_, rfl, by rw [← hS1]; exact r2, r3⟩
  · show fX11_game 5000 (nI a) (nI b) x3 SX = _
    rw [hX, if_neg h12]
    exact p1
  · show fX12_game 5000 (nI a) (nI b) x3 SM = _
    rw [hG, if_neg h12]
    unfold fX12_game_b47
    rw [bnd_t (m_canConfess Zk M ha)]
    dsimp only
    rw [bnd_t (m_canConfess Zk M hb)]
    dsimp only
    rw [bnd_t r1]
    show fX12_game_h76 5000 5000 x3 (iv (mayG qs a)) (iv (mayG qs b)) (0, -1).1 ((0 : Int32), (-1 : Int32)).2 (nI (2 * 0 + 0)) S3 = _
    rw [hl 0 0 4999 (0, -1) (by omega) (by omega)]
    show fX12_game_h76 5000 4999 x3 (iv (mayG qs a)) (iv (mayG qs b)) _ _ (nI (2 * 0 + 1)) S3 = _
    rw [hl 0 1 4998 _ (by omega) (by omega)]
    show fX12_game_h76 5000 4998 x3 (iv (mayG qs a)) (iv (mayG qs b)) _ _ (nI (2 * 1 + 0)) S3 = _
    rw [hl 1 0 4997 _ (by omega) (by omega)]
    show fX12_game_h76 5000 4997 x3 (iv (mayG qs a)) (iv (mayG qs b)) _ _ (nI (2 * 1 + 1)) S3 = _
    rw [hl 1 1 4996 _ (by omega) (by omega)]
    show fX12_game_b208 5000 x3 (fiV (mayG qs a) (mayG qs b) (quG Z (SX 21 1) h qs a) (quG Z (SX 21 1) h qs b)).1 (fiV (mayG qs a) (mayG qs b) (quG Z (SX 21 1) h qs a) (quG Z (SX 21 1) h qs b)).2 S3 = _
    unfold fX12_game_b208
    by_cases hx : x3 = 0
    · rw [if_pos hx, if_pos hx]; rfl
    · rw [if_neg hx, if_neg hx]; rfl
end

/-! part 64.afeed -/
section
/-! feed -/
noncomputable def byB (x : Int32) (k : Nat) : Int32 := (x >>> (nI (24 - 8 * k) &&& 31)) &&& 255
theorem bb_255 : ∀ i, i < 32 → bb 255 i = decide (i < 8) := by decide +kernel
theorem byte_255 (z : Int32) : (vp_nar .byte (Int32.toInt8 z).toInt32) &&& 255 = z &&& 255 := by
  rw [pk_vb]
  refine bb_ext (fun i hi => ?_)
  rw [bb_and, bb_and, bb_255 i hi]
  by_cases h8 : i < 8
  · rw [decide_eq_true h8, Bool.and_true, Bool.and_true]
    unfold bb
    rw [Int8.toBitVec_toInt32, Int32.toBitVec_toInt8, BitVec.getLsbD_signExtend, if_pos h8, BitVec.getLsbD_signExtend, if_pos hi]
    simp [hi, h8]
  · rw [decide_eq_false h8, Bool.and_false, Bool.and_false]
theorem byB_n (x : Int32) (k : Nat) : ∃ y : Nat, y < 256 ∧ byB x k = nI y := pk_andE (m := 255) _ 8 rfl
theorem x_add {S : gS} {n : Nat} {x : Int32} (hn : S 2 1 = nI n) (h7 : n + 4 ≤ 700) : ∃ S', fX8_add 5000 x S = some (0, S') ∧ S' 2 1 = nI (n + 4) ∧ (∀ i j, ¬ (i = 2 ∧ j = 1) → ¬ (i = 3 ∧ n ≤ j) → S' i j = S i j) ∧ ∀ k, k < 4 → (S' 3 (n + k) &&& 255) = byB x k := by
  have main : Gv (fX8_add_h3 5000 5000 x 24 S) (fun r => r.1 = 0 ∧ r.2 2 1 = nI (n + 4) ∧ (∀ i j, ¬ (i = 2 ∧ j = 1) → ¬ (i = 3 ∧ n ≤ j) → r.2 i j = S i j) ∧ ∀ k, k < 4 → (r.2 3 (n + k) &&& 255) = byB x k) := by
    have sh : ∀ k, k < 4 → (nI (24 - 8 * k) + (-8) : Int32) = (if k = 3 then -8 else nI (24 - 8 * (k + 1))) ∧ ¬ nI (24 - 8 * k) < 0 := by decide +kernel
    refine loopG (A := gS) (fun f k S => fX8_add_h3 5000 f x (if k = 4 then -8 else nI (24 - 8 * k)) S) (fun k S' => S' 2 1 = nI (n + k) ∧ (∀ i j, ¬ (i = 2 ∧ j = 1) → ¬ (i = 3 ∧ n ≤ j) → S' i j = S i j) ∧ ∀ t, t < k → (S' 3 (n + t) &&& 255) = byB x t) _ 4 ?_ ?_ 4 0 S 5000 (by omega) ⟨hn, fun _ _ _ _ => rfl, fun t ht => by omega⟩ (by omega)
    · rintro f S1 ⟨i1, i2, i3⟩
      exact ⟨(0, S1), rfl, rfl, i1, i2, i3⟩
    · rintro f k S1 hk ⟨i1, i2, i3⟩
      refine Or.inr ⟨sU (sU S1 3 (n + k) (vp_nar .byte (Int32.toInt8 (x >>> (nI (24 - 8 * k) &&& 31))).toInt32)) 2 1 (nI (n + (k + 1))), ⟨sU_s, fun i j h1 h2 => by rw [sU_n h1, sU_n (by omega)]; exact i2 i j h1 h2, fun t ht => ?_⟩, ?_⟩
      · rw [sU_n (by omega)]
        by_cases hh : t = k
        · subst hh
          rw [sU_s, byte_255]
          rfl
        · rw [sU_n (by omega)]; exact i3 t (by omega)
      · show fX8_add_b3 5000 (fX8_add_h3 5000 f) x (if k = 4 then -8 else nI (24 - 8 * k)) S1 = fX8_add_h3 5000 f x (if k + 1 = 4 then -8 else nI (24 - 8 * (k + 1))) _
        rw [if_neg (show ¬ k = 4 by omega)]
        unfold fX8_add_b3
        rw [if_neg (sh k hk).2]
        unfold fX8_add_b7
        rw [i1, if_neg (show ¬ (700 : Int32) ≤ nI (n + k) from nI_ge (b := 700) (by omega) (by decide))]
        unfold fX8_add_b19
        dsimp only [lt]
        rw [i1, nI_clamp (by omega), chk_t (inb_t (by omega) (by decide)), sU_n (i := 2) (by omega), i1, nI_1]
        unfold fX8_add_b42
        rw [(sh k hk).1]
        by_cases h3 : k = 3
        · rw [if_pos h3, if_pos (show k + 1 = 4 by omega)]
          rfl
        · rw [if_neg h3, if_neg (show ¬ k + 1 = 4 by omega)]
          rfl
  obtain ⟨⟨v, S'⟩, r1, r2, r3⟩ := main
  dsimp only at r2 r3
  subst r2
  exact ⟨S', r1, r3⟩
noncomputable def wd5 (a b c d e : Int32) (k : Nat) : Int32 := if k < 4 then a else if k < 8 then b else if k < 12 then c else if k < 16 then d else e
theorem m_feed_h {S : gS} {n : Nat} {a b c d e : Int32} (hn : S 99 20 = nI n) (h7 : n + 20 ≤ 700) : ∃ S', fX12_feed_h23 5000 5000 a b c d e 0 S = some (nI (n + 20), S') ∧ S' 99 20 = nI (n + 20) ∧ (∀ i j, ¬ (i = 99 ∧ j = 20) → ¬ (i = 19 ∧ n ≤ j) → S' i j = S i j) ∧ ∀ k, k < 20 → S' 19 (n + k) = byB (wd5 a b c d e k) (k % 4) := by
  have main : Gv (fX12_feed_h23 5000 5000 a b c d e 0 S) (fun r => r.1 = nI (n + 20) ∧ r.2 99 20 = nI (n + 20) ∧ (∀ i j, ¬ (i = 99 ∧ j = 20) → ¬ (i = 19 ∧ n ≤ j) → r.2 i j = S i j) ∧ ∀ k, k < 20 → r.2 19 (n + k) = byB (wd5 a b c d e k) (k % 4)) := by
    refine loopG (A := gS) (fun f k S => fX12_feed_h23 5000 f a b c d e (nI k) S) (fun k S' => S' 99 20 = nI (n + k) ∧ (∀ i j, ¬ (i = 99 ∧ j = 20) → ¬ (i = 19 ∧ n ≤ j) → S' i j = S i j) ∧ ∀ t, t < k → S' 19 (n + t) = byB (wd5 a b c d e t) (t % 4)) _ 20 ?_ ?_ 20 0 S 5000 (by omega) ⟨hn, fun _ _ _ _ => rfl, fun t ht => by omega⟩ (by omega)
    · rintro f S1 ⟨i1, i2, i3⟩
      exact ⟨(S1 99 20, S1), rfl, i1, i1, i2, i3⟩
    · rintro f k S1 hk ⟨i1, i2, i3⟩
      refine Or.inr ⟨sU (sU S1 19 (n + k) (byB (wd5 a b c d e k) (k % 4))) 99 20 (nI (n + (k + 1))), ⟨sU_s, fun i j h1 h2 => by rw [sU_n h1, sU_n (by omega)]; exact i2 i j h1 h2, fun t ht => ?_⟩, ?_⟩
      · rw [sU_n (by omega)]
        by_cases hh : t = k
        · subst hh
          rw [sU_s]
        · rw [sU_n (by omega)]; exact i3 t (by omega)
      · have b76 : ∀ w, w = wd5 a b c d e k → fX12_feed_b76 5000 (fX12_feed_h23 5000 f) a b c d e (nI k) w S1 = fX12_feed_h23 5000 f a b c d e (nI (k + 1)) (sU (sU S1 19 (n + k) (byB (wd5 a b c d e k) (k % 4))) 99 20 (nI (n + (k + 1)))) := by
          intro w hw
          subst hw
          unfold fX12_feed_b76
          have e24 : (24 : Int32) - 8 * (nI k - nI k / 4 * 4) = nI (24 - 8 * (k % 4)) := by
            rw [show (4 : Int32) = nI 4 from rfl, pk_rem (by omega) (by decide) (by decide), show (8 : Int32) = nI 8 from rfl, pk_mul, show (24 : Int32) = nI 24 from rfl, pk_sub (by have := Nat.mod_lt k (show 0 < 4 by decide); omega)]
          dsimp only [lt]
          rw [e24, i1, nI_clamp (by omega), chk_t (inb_t (by omega) (by decide)), sU_n (i := 99) (by omega), i1, nI_1, nI_1]
          rfl
        show fX12_feed_b23 5000 (fX12_feed_h23 5000 f) a b c d e (nI k) S1 = _
        unfold fX12_feed_b23
        rw [if_neg (show ¬ (20 : Int32) ≤ nI k from nI_ge (b := 20) hk (by decide))]
        unfold fX12_feed_b30
        by_cases h4 : 4 ≤ k
        · rw [if_pos (show (4 : Int32) ≤ nI k from nI_le (a := 4) h4 (by omega))]
          unfold fX12_feed_b40
          by_cases h8 : 8 ≤ k
          · rw [if_pos (show (8 : Int32) ≤ nI k from nI_le (a := 8) h8 (by omega))]
            unfold fX12_feed_b51
            by_cases h12 : 12 ≤ k
            · rw [if_pos (show (12 : Int32) ≤ nI k from nI_le (a := 12) h12 (by omega))]
              unfold fX12_feed_b62
              by_cases h16 : 16 ≤ k
              · rw [if_pos (show (16 : Int32) ≤ nI k from nI_le (a := 16) h16 (by omega))]
                exact b76 e (by unfold wd5; rw [if_neg (by omega), if_neg (by omega), if_neg (by omega), if_neg (by omega)])
              · rw [if_neg (show ¬ (16 : Int32) ≤ nI k from nI_ge (b := 16) (by omega) (by decide))]
                exact b76 d (by unfold wd5; rw [if_neg (by omega), if_neg (by omega), if_neg (by omega), if_pos (by omega)])
            · rw [if_neg (show ¬ (12 : Int32) ≤ nI k from nI_ge (b := 12) (by omega) (by decide))]
              exact b76 c (by unfold wd5; rw [if_neg (by omega), if_neg (by omega), if_pos (by omega)])
          · rw [if_neg (show ¬ (8 : Int32) ≤ nI k from nI_ge (b := 8) (by omega) (by decide))]
            exact b76 b (by unfold wd5; rw [if_neg (by omega), if_pos (by omega)])
        · rw [if_neg (show ¬ (4 : Int32) ≤ nI k from nI_ge (b := 4) (by omega) (by decide))]
          exact b76 a (by unfold wd5; rw [if_pos (by omega)])
  obtain ⟨⟨v, S'⟩, r1, r2, r3⟩ := main
  dsimp only at r2 r3
  subst r2
  exact ⟨S', r1, r3⟩
/-- only the tape changes -/
theorem JJ.tape {SX SM SX' SM' : gS} (h : JJ SX SM) (x : ∀ i j, ¬ (i = 2 ∧ j = 1) → i ≠ 3 → SX' i j = SX i j) (m : ∀ i j, ¬ (i = 99 ∧ j = 20) → i ≠ 19 → SM' i j = SM i j) (ht : jTape SX' SM') : JJ SX' SM' := by
  obtain ⟨n0, n1, h1, h2, h3, h4, h5⟩ := h
  have htw : xtw SX' = xtw SX := by
    unfold xtw
    rw [x 0 7 (by omega) (by omega)]
  refine ⟨n0, n1, ?_, ?_, ?_, ht, ?_⟩
  · rw [htw]
    refine h1.on2 (fun i j a b => x _ _ ?_ ?_) (fun j => m 5 j (by omega) (by omega)) (fun j => m 6 j (by omega) (by omega)) (fun j => m 7 j (by omega) (by omega)) (fun j => m 8 j (by omega) (by omega)) (fun j => m 9 j (by omega) (by omega)) (fun j => m 14 j (by omega) (by omega)) (fun j => m 15 j (by omega) (by omega)) (fun j => m 16 j (by omega) (by omega)) (fun j => m 18 j (by omega) (by omega))
    · have := xtw_cases (S := SX)
      omega
    · have := xtw_cases (S := SX)
      omega
  · refine jBook.on h2 (fun i a b => funext fun j => x _ _ (by omega) (by omega)) (fun c g a b => ?_) (m 99 39 (by omega) (by omega)) (m 99 40 (by omega) (by omega)) (funext fun j => m _ _ (by omega) (by omega)) (funext fun j => m _ _ (by omega) (by omega)) (funext fun j => m _ _ (by omega) (by omega)) (funext fun j => m _ _ (by omega) (by omega)) (funext fun j => m _ _ (by omega) (by omega))
    unfold mSt
    by_cases h0 : c = 0
    · rw [if_pos h0, if_pos h0, m _ _ (by omega) (by omega)]
    · rw [if_neg h0, if_neg h0, m _ _ (by omega) (by omega)]
  · exact jPic.on h3 (x 0 8 (by omega) (by omega)) (fun i j a b => x _ _ (by omega) (by omega)) (fun i j a b => m _ _ (by omega) (by omega)) (m 99 57 (by omega) (by omega)) (m 99 58 (by omega) (by omega)) (m 99 59 (by omega) (by omega))
  · unfold jMisc at h5 ⊢
    rw [x 1 3 (by omega) (by omega), m 99 29 (by omega) (by omega), m 99 41 (by omega) (by omega), x 0 7 (by omega) (by omega), x 1 1 (by omega) (by omega), x 14 2 (by omega) (by omega), x 17 2 (by omega) (by omega), x 82 2 (by omega) (by omega), x 85 2 (by omega) (by omega)]
    exact h5
theorem st_feed : Lw_feed JJ := by
  intro SX SM a b c d e hJ
  have hJ1 := hJ.same xSame.rf (code_same SM 0)
  obtain ⟨S1, hS1⟩ : ∃ z, z = sU SM 99 4 0 := ⟨_, rfl⟩
  rw [← hS1] at hJ1
  obtain ⟨n0, n1, hT, hN, hI, ⟨n, p1, p2, p3, p4⟩, hM⟩ := id hJ1
  have hX : fX11_feed 5000 a b c d e SX = if nI (n + 20) ≤ 700 then fX11_feed_b25 5000 a b c d e SX else fX11_feed_b23 5000 SX := by
    unfold fX11_feed fX11_feed_b0
    rw [p2, show (20 : Int32) = nI 20 from rfl, nI_add]
  have hMM : fX12_feed 5000 a b c d e SM = if nI (n + 20) ≤ 700 then fX12_feed_b20 5000 a b c d e S1 else fX12_feed_b18 5000 S1 := by
    unfold fX12_feed fX12_feed_b0
    dsimp only [lt]
    rw [← hS1, p3, show (20 : Int32) = nI 20 from rfl, nI_add]
  by_cases h7 : n + 20 ≤ 700
  · have hl : nI (n + 20) ≤ 700 := nI_le (b := 700) h7 (by decide)
    obtain ⟨X1, a1, a2, a3, a4⟩ := x_add (x := a) p2 (by omega)
    obtain ⟨X2, b1, b2, b3, b4⟩ := x_add (x := b) a2 (by omega)
    obtain ⟨X3, c1, c2, c3, c4⟩ := x_add (x := c) b2 (by omega)
    obtain ⟨X4, d1, d2, d3, d4⟩ := x_add (x := d) c2 (by omega)
    obtain ⟨X5, e1, e2, e3, e4⟩ := x_add (x := e) d2 (by omega)
    obtain ⟨M2, f1, f2, f3, f4⟩ := m_feed_h (a := a) (b := b) (c := c) (d := d) (e := e) p3 h7
    refine ⟨5000, (nI (n + 20), X5), 5000, (nI (n + 20), M2), ?_, ?_, rfl, ?_⟩
    · show fX11_feed 5000 a b c d e SX = _
      rw [hX, if_pos hl]
      unfold fX11_feed_b25
      rw [bnd_t a1]
      dsimp only
      rw [bnd_t b1]
      dsimp only
      rw [bnd_t c1]
      dsimp only
      rw [bnd_t d1]
      dsimp only
      rw [bnd_t e1]
      dsimp only
      rw [e2]
    · show fX12_feed 5000 a b c d e SM = _
      rw [hMM, if_pos hl]
      exact f1
    · show JJ X5 M2
      refine hJ1.tape (fun i j h1 h2 => ?_) (fun i j h1 h2 => f3 i j h1 (by omega)) ⟨n + 20, h7, e2, f2, fun i hi => ?_⟩
      · rw [e3 i j h1 (by omega), d3 i j h1 (by omega), c3 i j h1 (by omega), b3 i j h1 (by omega), a3 i j h1 (by omega)]
      · by_cases h0 : i < n
        · rw [e3 3 i (by omega) (by omega), d3 3 i (by omega) (by omega), c3 3 i (by omega) (by omega), b3 3 i (by omega) (by omega), a3 3 i (by omega) (by omega), f3 19 i (by omega) (by omega)]
          exact p4 i h0
        · obtain ⟨k, rfl⟩ : ∃ k, i = n + k := ⟨i - n, by omega⟩
          have hk : k < 20 := by omega
          obtain ⟨y, y1, y2⟩ := byB_n (wd5 a b c d e k) (k % 4)
          refine ⟨y, y1, ?_, by rw [f4 k hk]; exact y2⟩
          rw [← y2]
          by_cases q4 : k < 4
          · rw [e3 3 _ (by omega) (by omega), d3 3 _ (by omega) (by omega), c3 3 _ (by omega) (by omega), b3 3 _ (by omega) (by omega), a4 k q4, show k % 4 = k by omega]
            unfold wd5
            rw [if_pos q4]
          by_cases q8 : k < 8
          · rw [e3 3 _ (by omega) (by omega), d3 3 _ (by omega) (by omega), c3 3 _ (by omega) (by omega), show n + k = n + 4 + (k - 4) by omega, b4 (k - 4) (by omega), show k % 4 = k - 4 by omega]
            unfold wd5
            rw [if_neg q4, if_pos q8]
          by_cases q12 : k < 12
          · rw [e3 3 _ (by omega) (by omega), d3 3 _ (by omega) (by omega), show n + k = n + 4 + 4 + (k - 8) by omega, c4 (k - 8) (by omega), show k % 4 = k - 8 by omega]
            unfold wd5
            rw [if_neg q4, if_neg q8, if_pos q12]
          by_cases q16 : k < 16
          · rw [e3 3 _ (by omega) (by omega), show n + k = n + 4 + 4 + 4 + (k - 12) by omega, d4 (k - 12) (by omega), show k % 4 = k - 12 by omega]
            unfold wd5
            rw [if_neg q4, if_neg q8, if_neg q12, if_pos q16]
          · rw [show n + k = n + 4 + 4 + 4 + 4 + (k - 16) by omega, e4 (k - 16) (by omega), show k % 4 = k - 16 by omega]
            unfold wd5
            rw [if_neg q4, if_neg q8, if_neg q12, if_neg q16]
  · have hl : ¬ nI (n + 20) ≤ 700 := nI_ge (a := 700) (by omega) (by omega)
    refine ⟨5000, (-1, SX), 5000, (-1, S1), ?_, ?_, rfl, hJ1⟩
    · show fX11_feed 5000 a b c d e SX = _
      rw [hX, if_neg hl]
      rfl
    · show fX12_feed 5000 a b c d e SM = _
      rw [hMM, if_neg hl]
      rfl
end

/-! part 65.arhythm -/
section
/-! what comes round: numbers -/
theorem lc_least {a b : Nat} (ha : 0 < a) (hb : 0 < b) : ∃ t, 1 ≤ t ∧ t ≤ b ∧ a * t % b = 0 ∧ (∀ s, 1 ≤ s → s < t → a * s % b ≠ 0) ∧ a * t = Nat.lcm a b := by
  obtain ⟨t, ⟨t1, t2⟩, t3⟩ := pk_least (fun t => 1 ≤ t ∧ a * t % b = 0) ⟨b, hb, Nat.mul_mod_left a b⟩
  have tb : t ≤ b := Nat.le_of_not_lt (fun q => t3 b q ⟨hb, Nat.mul_mod_left a b⟩)
  refine ⟨t, t1, tb, t2, fun s s1 s2 q => t3 s s2 ⟨s1, q⟩, ?_⟩
  have d1 : Nat.lcm a b ∣ a * t := Nat.lcm_dvd (Nat.dvd_mul_right a t) (Nat.dvd_of_mod_eq_zero t2)
  obtain ⟨s, hs⟩ := Nat.dvd_lcm_left a b
  have lp : 0 < Nat.lcm a b := Nat.lcm_pos ha hb
  have s1 : 1 ≤ s := by
    rcases Nat.eq_zero_or_pos s with q | q
    · rw [q, Nat.mul_zero] at hs; omega
    · exact q
  have s2 : a * s % b = 0 := by
    rw [← hs]
    exact Nat.mod_eq_zero_of_dvd (Nat.dvd_lcm_right a b)
  have ts : t ≤ s := Nat.le_of_not_lt (fun q => t3 s q ⟨s1, s2⟩)
  have h1 : a * t ≤ Nat.lcm a b := by
    rw [hs]
    exact Nat.mul_le_mul_left a ts
  have h2 : Nat.lcm a b ≤ a * t := Nat.le_of_dvd (Nat.mul_pos ha t1) d1
  omega
theorem lcm_27720 {a b : Nat} (ha : a ∣ 27720) (h1 : 1 ≤ b) (h2 : b ≤ 12) : Nat.lcm a b ∣ 27720 := by
  refine Nat.lcm_dvd ha ?_
  rcases (show b = 1 ∨ b = 2 ∨ b = 3 ∨ b = 4 ∨ b = 5 ∨ b = 6 ∨ b = 7 ∨ b = 8 ∨ b = 9 ∨ b = 10 ∨ b = 11 ∨ b = 12 by omega) with rfl | rfl | rfl | rfl | rfl | rfl | rfl | rfl | rfl | rfl | rfl | rfl <;> decide
theorem x_leastCommon {N a b : Nat} {S : gS} (ha : 0 < a) (ha2 : a ∣ 27720) (h1 : 1 ≤ b) (h2 : b ≤ 12) (hN : 20 < N) : fX11_leastCommon N (nI a) (nI b) S = some (nI (Nat.lcm a b), S) := by
  obtain ⟨t, t1, t2, t3, t4, t5⟩ := lc_least (b := b) ha h1
  have hl : a * t ≤ 27720 := by rw [t5]; exact Nat.le_of_dvd (by decide) (lcm_27720 ha2 h1 h2)
  have main : ∀ (m i fuel : Nat), i + m = t → 1 ≤ i → m < fuel → fX11_leastCommon_h4 N fuel (nI a) (nI b) (nI (a * i)) (nI i) S = some (nI (a * t), S) := by
    intro m
    induction m with
    | zero =>
      intro i fuel h3 h4 h5
      obtain ⟨f, rfl⟩ : ∃ f, fuel = f + 1 := ⟨fuel - 1, by omega⟩
      have : i = t := by omega
      subst this
      show fX11_leastCommon_b4 N _ (nI a) (nI b) (nI (a * i)) (nI i) S = _
      unfold fX11_leastCommon_b4
      by_cases hb : b ≤ i
      · rw [if_pos (nI_le hb (by omega))]
        rfl
      · rw [if_neg (nI_ge (by omega) (by omega))]
        unfold fX11_leastCommon_b9
        rw [chk_t (nz_t (by omega) (by omega)), pk_rem (by omega) (by omega) (by omega), t3, if_pos (show nI 0 = 0 from rfl)]
        rfl
    | succ m ih =>
      intro i fuel h3 h4 h5
      obtain ⟨f, rfl⟩ : ∃ f, fuel = f + 1 := ⟨fuel - 1, by omega⟩
      have hai : a * i ≤ a * t := Nat.mul_le_mul_left a (by omega)
      show fX11_leastCommon_b4 N (fX11_leastCommon_h4 N f) (nI a) (nI b) (nI (a * i)) (nI i) S = _
      unfold fX11_leastCommon_b4
      rw [if_neg (nI_ge (by omega) (by omega))]
      unfold fX11_leastCommon_b9
      have hr : a * i % b < b := Nat.mod_lt _ (by omega)
      have hne := t4 i h4 (by omega)
      rw [chk_t (nz_t (by omega) (by omega)), pk_rem (by omega) (by omega) (by omega), if_neg (nI_ne0 (by omega) (by omega))]
      unfold fX11_leastCommon_b15
      rw [nI_1, nI_add, show a * i + a = a * (i + 1) from (Nat.mul_succ a i).symm]
      exact ih (i + 1) f (by omega) (by omega) (by omega)
  have h := main (t - 1) 1 N (by omega) (by omega) (by omega)
  rw [Nat.mul_one, t5] at h
  exact h
noncomputable def dpZ (Z : gS) (k : Nat) : Nat := (Z 1 k).toNatClampNeg
noncomputable def phZ (Z : gS) (k : Nat) : Nat := (Z 2 k).toNatClampNeg
theorem dp_ok {Z : gS} {k : Nat} (Zk : tOK Z) (hk : k < tn0 Z) : Z 1 k = nI (dpZ Z k) ∧ 1 ≤ dpZ Z k ∧ dpZ Z k ≤ 12 ∧ Z 2 k = nI (phZ Z k) ∧ phZ Z k ≤ 11 := by
  obtain ⟨⟨x, x1, x2, x3⟩, ⟨y, y1, y2⟩, -⟩ := Zk.2.2.2.2.1 k hk
  unfold dpZ phZ
  rw [x3, y2, nI_clamp (by omega), nI_clamp (by omega)]
  exact ⟨rfl, x1, x2, rfl, y1⟩
noncomputable def rhN (Z : gS) (so : Int32) : Nat → Nat
  | 0 => 1
  | k + 1 => if bt so (nI k) = true then Nat.lcm (rhN Z so k) (dpZ Z k) else rhN Z so k
theorem rh_ok {Z : gS} {so : Int32} (Zk : tOK Z) : ∀ k, k ≤ tn0 Z → 0 < rhN Z so k ∧ rhN Z so k ∣ 27720 := by
  intro k
  induction k with
  | zero => intro _; exact ⟨Nat.zero_lt_one, Nat.one_dvd _⟩
  | succ k ih =>
    intro hk
    obtain ⟨i1, i2⟩ := ih (by omega)
    obtain ⟨d1, d2, d3, -⟩ := dp_ok Zk (show k < tn0 Z by omega)
    show 0 < (if bt so (nI k) = true then Nat.lcm (rhN Z so k) (dpZ Z k) else rhN Z so k) ∧ (if bt so (nI k) = true then Nat.lcm (rhN Z so k) (dpZ Z k) else rhN Z so k) ∣ 27720
    by_cases hb : bt so (nI k) = true
    · rw [if_pos hb]; exact ⟨Nat.lcm_pos i1 (by omega), lcm_27720 i2 d2 d3⟩
    · rw [if_neg hb]; exact ⟨i1, i2⟩
theorem shl_m : ∀ n, n < 9 → (1 : Int32) <<< (nI n &&& 31) = nI (2 ^ n) := by decide +kernel
theorem x_needGrottoes {N n : Nat} {S : gS} {x : Int32} (h : S (xtw S) 0 = nI n) (hn : n ≤ 8) : fX11_needGrottoes N x S = some (if inb x (2 ^ n) = true then 0 else 2, 0, S) := by
  have hp := pow256 hn
  unfold fX11_needGrottoes fX11_needGrottoes_b0
  rcases pk_ix x (n := 2 ^ n) (by omega) with h1 | h1 | ⟨j, hj, rfl⟩
  · rw [if_pos h1, inb_f1 h1]
    rfl
  · rw [inb_f2 (by omega) h1]
    by_cases h2 : x < 0
    · rw [if_pos h2]
      rfl
    · rw [if_neg h2]
      unfold fX11_needGrottoes_b4
      dsimp only [lt]
      rw [h, shl_m n (by omega), if_neg (Int32.not_lt.mpr h1)]
      rfl
  · rw [inb_t hj (by omega), if_neg (nI_pos (by omega))]
    unfold fX11_needGrottoes_b4
    dsimp only [lt]
    rw [h, shl_m n (by omega), if_pos (nI_lt hj (by omega))]
    rfl
theorem m_isSome {N n : Nat} {S : gS} {x : Int32} (h : S 5 0 = nI n) (hn : n ≤ 8) : fX12_isSome N x S = some (iv (inb x (2 ^ n)), S) := by
  have hp := pow256 hn
  unfold fX12_isSome fX12_isSome_b0
  rw [h, shl_m n (by omega), bnd_t m_isIn0, wth_inb (by omega)]
  exact chk_t zb_iv
theorem st_rhythm : Lw_rhythm JJ := by
  intro SX SM x1 hJ
  obtain ⟨S1, Z, h, qs, hS1, c0, hJ1, Zk, h9, C, M, K, w41, x0, x5⟩ := pre hJ
  have z8 := Zk.1.2
  have hF : fX12_rhythm 50000 x1 SM = if iv (inb x1 (2 ^ tn0 Z)) = 0 then fX12_rhythm_b13 50000 S1 else fX12_rhythm_b19 50000 x1 S1 := by
    unfold fX12_rhythm fX12_rhythm_b0
    dsimp only [lt]
    rw [← hS1, bnd_t (m_isSome M.1.1 z8)]
  cases h1 : inb x1 (2 ^ tn0 Z) with
  | false =>
    refine stFl 50000 50000 2 hJ two_ne (Or.inr rfl) ?_ ?_
    · show fX11_rhythm_b0 50000 x1 SX = _
      unfold fX11_rhythm_b0
      rw [bnx_x (x_needGrottoes x0 z8) (by rw [h1]; exact two_ne), h1]
      rfl
    · show fX12_rhythm 50000 x1 SM = _
      rw [hF, h1, ← hS1]
      rfl
  | true =>
  refine stSu 50000 50000 (nI (rhN Z x1 (tn0 Z))) hJ rfl (Or.inl rfl) ?_ ?_
  · have e : fX11_rhythm 50000 x1 SX = fX11_rhythm_h9 50000 50000 x1 1 0 SX := by
      show fX11_rhythm_b0 50000 x1 SX = _
      unfold fX11_rhythm_b0
      rw [bnx_t (x_needGrottoes x0 z8) (by rw [h1]; rfl)]
    show Gv (fX11_rhythm 50000 x1 SX) _
    rw [e]
    refine loopG (A := Unit) (fun f k _ => fX11_rhythm_h9 50000 f x1 (nI (rhN Z x1 k)) (nI k) SX) (fun _ _ => True) _ (tn0 Z) ?_ ?_ (tn0 Z) 0 () 50000 (by omega) trivial (by omega)
    · rintro f a -
      refine ⟨(0, nI (rhN Z x1 (tn0 Z)), SX), ?_, rfl, rfl, xSame.rf⟩
      show fX11_rhythm_b9 50000 _ x1 _ (nI (tn0 Z)) SX = _
      unfold fX11_rhythm_b9
      dsimp only [lt]
      rw [x0, if_pos (nI_le (Nat.le_refl _) (by omega))]
      rfl
    · rintro f k a hk -
      refine Or.inr ⟨(), trivial, ?_⟩
      obtain ⟨d1, d2, d3, -⟩ := dp_ok Zk hk
      obtain ⟨r1, r2⟩ := rh_ok (so := x1) Zk k (by omega)
      show fX11_rhythm_b9 50000 (fX11_rhythm_h9 50000 f) x1 _ (nI k) SX = fX11_rhythm_h9 50000 f x1 (nI (if bt x1 (nI k) = true then Nat.lcm (rhN Z x1 k) (dpZ Z k) else rhN Z x1 k)) (nI (k + 1)) SX
      unfold fX11_rhythm_b9
      dsimp only [lt]
      rw [x0, if_neg (nI_ge hk (by omega))]
      unfold fX11_rhythm_b20
      rw [bnd_t x_isOneOf]
      cases hb : bt x1 (nI k) with
      | false =>
        show fX11_rhythm_b42 50000 (fX11_rhythm_h9 50000 f) x1 (nI (rhN Z x1 k)) (nI k) SX = fX11_rhythm_h9 50000 f x1 (nI (rhN Z x1 k)) (nI (k + 1)) SX
        unfold fX11_rhythm_b42
        rw [nI_1]
      | true =>
        show fX11_rhythm_b28 50000 (fX11_rhythm_h9 50000 f) x1 (nI (rhN Z x1 k)) (nI k) SX = fX11_rhythm_h9 50000 f x1 (nI (Nat.lcm (rhN Z x1 k) (dpZ Z k))) (nI (k + 1)) SX
        unfold fX11_rhythm_b28
        dsimp only [lt]
        rw [chk_t (inb_t (by omega) (by decide)), nI_clamp (by omega), C.1 1 k (by omega) (by omega), d1, bnd_t (x_leastCommon r1 r2 d2 d3 (by decide))]
        unfold fX11_rhythm_b42
        rw [nI_1]
  · have e : fX12_rhythm 50000 x1 SM = fX12_rhythm_h23 50000 50000 x1 1 0 S1 := by
      rw [hF, h1]
      rfl
    show Gv (fX12_rhythm 50000 x1 SM) _
    rw [e, ← hS1]
    refine loopG (A := Unit) (fun f k _ => fX12_rhythm_h23 50000 f x1 (nI (rhN Z x1 k)) (nI k) S1) (fun _ _ => True) _ (tn0 Z) ?_ ?_ (tn0 Z) 0 () 50000 (by omega) trivial (by omega)
    · rintro f a -
      refine ⟨(nI (rhN Z x1 (tn0 Z)), S1), ?_, rfl, mSame.rf, c0⟩
      show fX12_rhythm_b23 50000 _ x1 _ (nI (tn0 Z)) S1 = _
      unfold fX12_rhythm_b23
      rw [M.1.1, if_pos (nI_le (Nat.le_refl _) (by omega))]
      rfl
    · rintro f k a hk -
      refine Or.inr ⟨(), trivial, ?_⟩
      obtain ⟨d1, d2, d3, -⟩ := dp_ok Zk hk
      obtain ⟨r1, r2⟩ := rh_ok (so := x1) Zk k (by omega)
      show fX12_rhythm_b23 50000 (fX12_rhythm_h23 50000 f) x1 _ (nI k) S1 = fX12_rhythm_h23 50000 f x1 (nI (if bt x1 (nI k) = true then Nat.lcm (rhN Z x1 k) (dpZ Z k) else rhN Z x1 k)) (nI (k + 1)) S1
      unfold fX12_rhythm_b23
      rw [M.1.1, if_neg (nI_ge hk (by omega))]
      unfold fX12_rhythm_b33
      have e7 : S1 7 k = nI (dpZ Z k) := (M.1.2.2.2.2.2.2.2.1 k hk).1.trans d1
      cases hb : bt x1 (nI k) with
      | false =>
        rw [if_neg (by decide)]
        show fX12_rhythm_b36 50000 (fX12_rhythm_h23 50000 f) (fX12_rhythm_h36 50000 (fX12_rhythm_h23 50000 f) 49999) x1 (nI (rhN Z x1 k)) (nI k) (nI (rhN Z x1 k)) S1 = _
        unfold fX12_rhythm_b36
        rw [bnd_t m_isOf, hb]
        show fX12_rhythm_b63 50000 (fX12_rhythm_h23 50000 f) x1 (nI (rhN Z x1 k)) (nI k) S1 = _
        unfold fX12_rhythm_b63
        rw [nI_1]
      | true =>
        rw [if_pos rfl]
        obtain ⟨t, t1, t2, t3, t4, t5⟩ := lc_least (b := dpZ Z k) r1 d2
        have hl : rhN Z x1 k * t ≤ 27720 := by rw [t5]; exact Nat.le_of_dvd (by decide) (lcm_27720 r2 d2 d3)
        rw [← t5]
        suffices L : ∀ (m i fuel : Nat), i + m = t → 1 ≤ i → m < fuel → fX12_rhythm_h36 50000 (fX12_rhythm_h23 50000 f) fuel x1 (nI (rhN Z x1 k * i)) (nI k) (nI (rhN Z x1 k)) S1 = fX12_rhythm_h23 50000 f x1 (nI (rhN Z x1 k * t)) (nI (k + 1)) S1 by
          have h := L (t - 1) 1 50000 (by omega) (by omega) (by omega)
          rw [Nat.mul_one] at h
          exact h
        intro m
        induction m with
        | zero =>
          intro i fuel h3 h4 h5
          obtain ⟨g, rfl⟩ : ∃ g, fuel = g + 1 := ⟨fuel - 1, by omega⟩
          have : i = t := by omega
          subst this
          show fX12_rhythm_b36 50000 (fX12_rhythm_h23 50000 f) (fX12_rhythm_h36 50000 (fX12_rhythm_h23 50000 f) g) x1 _ (nI k) _ S1 = _
          unfold fX12_rhythm_b36
          rw [bnd_t m_isOf, hb]
          show fX12_rhythm_b44 50000 (fX12_rhythm_h23 50000 f) (fX12_rhythm_h36 50000 (fX12_rhythm_h23 50000 f) g) x1 _ (nI k) _ S1 = _
          unfold fX12_rhythm_b44
          rw [chk_t (inb_t (by omega) (by decide)), nI_clamp (by omega), e7, chk_t (nz_t (by omega) (by omega)), pk_rem (by omega) (by omega) (by omega), t3, if_pos (show nI 0 = 0 from rfl)]
          unfold fX12_rhythm_b63
          rw [nI_1]
        | succ m ih =>
          intro i fuel h3 h4 h5
          obtain ⟨g, rfl⟩ : ∃ g, fuel = g + 1 := ⟨fuel - 1, by omega⟩
          have hai : rhN Z x1 k * i ≤ rhN Z x1 k * t := Nat.mul_le_mul_left _ (by omega)
          have hr : rhN Z x1 k * i % dpZ Z k < dpZ Z k := Nat.mod_lt _ (by omega)
          have hne := t4 i h4 (by omega)
          show fX12_rhythm_b36 50000 (fX12_rhythm_h23 50000 f) (fX12_rhythm_h36 50000 (fX12_rhythm_h23 50000 f) g) x1 _ (nI k) _ S1 = _
          unfold fX12_rhythm_b36
          rw [bnd_t m_isOf, hb]
          show fX12_rhythm_b44 50000 (fX12_rhythm_h23 50000 f) (fX12_rhythm_h36 50000 (fX12_rhythm_h23 50000 f) g) x1 _ (nI k) _ S1 = _
          unfold fX12_rhythm_b44
          rw [chk_t (inb_t (by omega) (by decide)), nI_clamp (by omega), e7, chk_t (nz_t (by omega) (by omega)), pk_rem (by omega) (by omega) (by omega), if_neg (nI_ne0 (by omega) (by omega))]
          unfold fX12_rhythm_b55
          rw [nI_add, show rhN Z x1 k * i + rhN Z x1 k = rhN Z x1 k * (i + 1) from (Nat.mul_succ _ i).symm]
          exact ih (i + 1) g (by omega) (by omega) (by omega)
end

/-! part 66.atogether -/
section
/-! together -/
abbrev cmN (c d n : Nat) : Prop := (n - 1 + c) % d = 0
theorem cm_add {c d n t : Nat} (h1 : 1 ≤ n) : cmN c d (n + t * d) ↔ cmN c d n := by
  unfold cmN
  rw [show n + t * d - 1 + c = n - 1 + c + t * d by omega, Nat.add_mul_mod_self_right]
theorem tg_none {k L c d : Nat} {P : Nat → Prop} (k1 : 1 ≤ k) (hd : 1 ≤ d) (hP : ∀ n, 1 ≤ n → (P n ↔ ∃ m, n = k + m * L)) (h : ∀ i, i < d → ¬ cmN c d (k + i * L)) : ∀ n, 1 ≤ n → ¬ (P n ∧ cmN c d n) := by
  rintro n n1 ⟨a, b⟩
  obtain ⟨m, rfl⟩ := (hP n n1).mp a
  refine h (m % d) (Nat.mod_lt _ (by omega)) ?_
  have e : k + m * L = k + m % d * L + (m / d * L) * d := by
    have h0 : m = d * (m / d) + m % d := (Nat.div_add_mod m d).symm
    have h1 : m * L = m / d * L * d + m % d * L := by
      calc m * L = (d * (m / d) + m % d) * L := by rw [← h0]
        _ = d * (m / d) * L + m % d * L := Nat.add_mul _ _ _
        _ = m / d * L * d + m % d * L := by rw [Nat.mul_assoc, Nat.mul_comm d]
    omega
  rw [e] at b
  exact (cm_add (by omega)).mp b
theorem tg_some {k L c d i0 : Nat} {P : Nat → Prop} (k1 : 1 ≤ k) (kL : k ≤ L) (hd : 1 ≤ d) (hP : ∀ n, 1 ≤ n → (P n ↔ ∃ m, n = k + m * L)) (h0 : cmN c d (k + i0 * L)) (h : ∀ i, i < i0 → ¬ cmN c d (k + i * L)) : k + i0 * L ≤ Nat.lcm L d ∧ ∀ n, 1 ≤ n → (P n ∧ cmN c d n ↔ ∃ m, n = k + i0 * L + m * Nat.lcm L d) := by
  obtain ⟨a, ha⟩ := Nat.dvd_lcm_left L d
  obtain ⟨b, hb⟩ := Nat.dvd_lcm_right L d
  have lp : 0 < Nat.lcm L d := Nat.lcm_pos (by omega) (by omega)
  have a1 : 1 ≤ a := by
    rcases Nat.eq_zero_or_pos a with q | q
    · rw [q, Nat.mul_zero] at ha; omega
    · exact q
  refine ⟨?_, fun n n1 => ⟨?_, ?_⟩⟩
  · refine Nat.le_of_not_lt (fun q => ?_)
    have hi : a ≤ i0 := by
      refine Nat.le_of_not_lt (fun q2 => ?_)
      have h2 : (i0 + 1) * L ≤ a * L := Nat.mul_le_mul_right L (by omega)
      rw [Nat.succ_mul] at h2
      rw [ha, Nat.mul_comm L a] at q
      omega
    refine h (i0 - a) (by omega) ?_
    have e : k + i0 * L = k + (i0 - a) * L + b * d := by
      have h3 : i0 * L = (i0 - a) * L + a * L := by rw [← Nat.add_mul, show i0 - a + a = i0 by omega]
      have h4 : a * L = b * d := by rw [Nat.mul_comm a L, ← ha, hb, Nat.mul_comm d b]
      omega
    rw [e] at h0
    exact (cm_add (by omega)).mp h0
  · rintro ⟨p, q⟩
    obtain ⟨m, rfl⟩ := (hP n n1).mp p
    have hm : i0 ≤ m := Nat.le_of_not_lt (fun q2 => h m q2 q)
    have e1 : k + m * L = k + i0 * L + (m - i0) * L := by
      have h3 : m * L = (m - i0) * L + i0 * L := by rw [← Nat.add_mul, show m - i0 + i0 = m by omega]
      omega
    have dd : d ∣ (m - i0) * L := by
      unfold cmN at q h0
      have d1 := Nat.dvd_of_mod_eq_zero q
      have d2 := Nat.dvd_of_mod_eq_zero h0
      have d3 := Nat.dvd_sub d1 d2
      rw [show k + m * L - 1 + c - (k + i0 * L - 1 + c) = (m - i0) * L by omega] at d3
      exact d3
    obtain ⟨t, ht⟩ := Nat.lcm_dvd (Nat.dvd_mul_left L (m - i0)) dd
    exact ⟨t, by rw [e1, ht, Nat.mul_comm (Nat.lcm L d) t]⟩
  · rintro ⟨m, rfl⟩
    refine ⟨(hP _ n1).mpr ⟨i0 + m * a, ?_⟩, ?_⟩
    · rw [Nat.add_mul, Nat.mul_assoc, Nat.mul_comm a L, ← ha]
      omega
    · rw [hb, Nat.mul_comm d b, ← Nat.mul_assoc]
      exact (cm_add (by omega)).mpr h0
theorem cm_S {h p d n : Nat} {ph dr : Int32} (hp : ph = nI p) (hd : dr = nI d) (d1 : 1 ≤ d) (d2 : d < 2 ^ 31) (n1 : 1 ≤ n) (hb : h + n + p < 2 ^ 31) : cmS ph dr (nI (h + n - 1)) = decide (cmN (h + p) d n) := by
  unfold cmS cmN
  rw [hp, hd, nI_add, pk_rem (by omega) (by omega) d2, show h + n - 1 + p = n - 1 + (h + p) by omega]
  have hr : (n - 1 + (h + p)) % d < d := Nat.mod_lt _ (by omega)
  by_cases hz : (n - 1 + (h + p)) % d = 0
  · rw [hz, decide_eq_true (show nI 0 = 0 from rfl), decide_eq_true rfl]
  · rw [decide_eq_false (nI_ne0 (by omega) (by omega)), decide_eq_false hz]
/-- what all told GROTTOES below j do in HOUR n from now -/
def solZ (Z : gS) (h : Nat) (so : Int32) (j n : Nat) : Prop := ∀ k, k < j → bt so (nI k) = true → cmN (h + phZ Z k) (dpZ Z k) n
theorem solZ_s {Z : gS} {h : Nat} {so : Int32} {j n : Nat} : solZ Z h so (j + 1) n ↔ solZ Z h so j n ∧ (bt so (nI j) = true → cmN (h + phZ Z j) (dpZ Z j) n) := by
  refine ⟨fun q => ⟨fun k hk => q k (by omega), q j (by omega)⟩, fun q k hk => ?_⟩
  by_cases hh : k = j
  · rw [hh]; exact q.2
  · exact q.1 k (by omega)
section
variable {Z SX : gS} {h : Nat} {so : Int32}
theorem x_nextOf {j k L : Nat} (Zk : tOK Z) (hx : tXz (xtw SX) Z SX) (hh : SX 21 0 = nI h) (h9 : h ≤ 999) (hj : j < tn0 Z) (k1 : 1 ≤ k) (k2 : k ≤ 27720) (L2 : L ≤ 27720) : (fX11_nextOf 50000 (nI j) (nI k) (nI L) SX = some (-1, SX) ∧ ∀ i, i < dpZ Z j → ¬ cmN (h + phZ Z j) (dpZ Z j) (k + i * L)) ∨ ∃ i0, i0 < dpZ Z j ∧ fX11_nextOf 50000 (nI j) (nI k) (nI L) SX = some (nI (k + i0 * L), SX) ∧ cmN (h + phZ Z j) (dpZ Z j) (k + i0 * L) ∧ ∀ i, i < i0 → ¬ cmN (h + phZ Z j) (dpZ Z j) (k + i * L) := by
  have z8 := Zk.1.2
  obtain ⟨d1, d2, d3, d4, d5⟩ := dp_ok Zk hj
  have hT1 : SX (xtw SX + 1) j = nI (dpZ Z j) := (hx 1 j (by omega) (by omega)).trans d1
  have h00 : SX (xtw SX) 0 = nI (tn0 Z) := (hx 0 0 (by omega) (by omega)).trans Zk.1.1
  suffices Lp : ∀ (m i fuel : Nat), i + m = dpZ Z j → m < fuel → (∀ t, t < i → ¬ cmN (h + phZ Z j) (dpZ Z j) (k + t * L)) → (fX11_nextOf_h3 50000 fuel (nI j) (nI k) (nI L) (nI i) SX = some (-1, SX) ∧ ∀ i, i < dpZ Z j → ¬ cmN (h + phZ Z j) (dpZ Z j) (k + i * L)) ∨ ∃ i0, i0 < dpZ Z j ∧ fX11_nextOf_h3 50000 fuel (nI j) (nI k) (nI L) (nI i) SX = some (nI (k + i0 * L), SX) ∧ cmN (h + phZ Z j) (dpZ Z j) (k + i0 * L) ∧ ∀ i, i < i0 → ¬ cmN (h + phZ Z j) (dpZ Z j) (k + i * L) from Lp (dpZ Z j) 0 50000 (by omega) (by omega) (fun t ht => by omega)
  intro m
  induction m with
  | zero =>
    intro i fuel h1 h2 h3
    obtain ⟨f, rfl⟩ : ∃ f, fuel = f + 1 := ⟨fuel - 1, by omega⟩
    have : i = dpZ Z j := by omega
    refine Or.inl ⟨?_, fun t ht => h3 t (by omega)⟩
    show fX11_nextOf_b3 50000 _ (nI j) (nI k) (nI L) (nI i) SX = _
    unfold fX11_nextOf_b3
    dsimp only [lt]
    rw [chk_t (inb_t (by omega) (by decide)), nI_clamp (by omega), hT1, if_pos (nI_le (by omega) (by omega))]
    rfl
  | succ m ih =>
    intro i fuel h1 h2 h3
    obtain ⟨f, rfl⟩ : ∃ f, fuel = f + 1 := ⟨fuel - 1, by omega⟩
    have hiL : i * L ≤ 12 * 27720 := Nat.mul_le_mul (by omega) L2
    have hF : fX11_nextOf_h3 50000 (f + 1) (nI j) (nI k) (nI L) (nI i) SX = if iv (decide (cmN (h + phZ Z j) (dpZ Z j) (k + i * L))) = 0 then fX11_nextOf_b54 50000 (fX11_nextOf_h3 50000 f) (nI j) (nI k) (nI L) (nI i) SX else fX11_nextOf_b51 50000 (nI (k + i * L)) SX := by
      show fX11_nextOf_b3 50000 (fX11_nextOf_h3 50000 f) (nI j) (nI k) (nI L) (nI i) SX = _
      unfold fX11_nextOf_b3
      dsimp only [lt]
      rw [chk_t (inb_t (by omega) (by decide)), nI_clamp (by omega), hT1, if_neg (nI_ge (by omega) (by omega))]
      unfold fX11_nextOf_b17
      dsimp only [lt]
      rw [hh, pk_mul, nI_add, ahead_ix (by omega), bnd_t (x_comesRound h00 z8 hj hT1 d2 d3), cm_S (p := phZ Z j) (d := dpZ Z j) ((hx 2 j (by omega) (by omega)).trans d4) hT1 d2 (by omega) (by omega) (by omega)]
    by_cases hc : cmN (h + phZ Z j) (dpZ Z j) (k + i * L)
    · refine Or.inr ⟨i, by omega, ?_, hc, h3⟩
      rw [hF, decide_eq_true hc]
      rfl
    · rcases ih (i + 1) f (by omega) (by omega) (fun t ht => by
        by_cases ht2 : t = i
        · rw [ht2]; exact hc
        · exact h3 t (by omega)) with ⟨a, b⟩ | ⟨i0, a, b, c⟩
      · refine Or.inl ⟨?_, b⟩
        rw [hF, decide_eq_false hc]
        show fX11_nextOf_b54 50000 (fX11_nextOf_h3 50000 f) (nI j) (nI k) (nI L) (nI i) SX = _
        unfold fX11_nextOf_b54
        rw [nI_1]
        exact a
      · refine Or.inr ⟨i0, a, ?_, c⟩
        rw [hF, decide_eq_false hc]
        show fX11_nextOf_b54 50000 (fX11_nextOf_h3 50000 f) (nI j) (nI k) (nI L) (nI i) SX = _
        unfold fX11_nextOf_b54
        rw [nI_1]
        exact b
def ansT (P : Nat → Prop) (v : Int32) : Prop := (∃ n, 1 ≤ n ∧ n ≤ 27720 ∧ P n ∧ (∀ m, 1 ≤ m → m < n → ¬ P m) ∧ v = nI n) ∨ ((∀ n, 1 ≤ n → ¬ P n) ∧ v = -1)
theorem ansT.u {P : Nat → Prop} : ∀ v v', ansT P v → ansT P v' → v = v' := by
  rintro v v' (⟨k, a1, -, a2, a3, a4⟩ | ⟨a1, a2⟩) (⟨k', b1, -, b2, b3, b4⟩ | ⟨b1, b2⟩)
  · have : k = k' := by
      rcases Nat.lt_trichotomy k k' with h | h | h
      · exact absurd a2 (b3 k a1 h)
      · exact h
      · exact absurd b2 (a3 k' b1 h)
    rw [a4, b4, this]
  · exact absurd a2 (b1 k a1)
  · exact absurd b2 (a1 k' b1)
  · rw [a2, b2]
theorem x_together_h (Zk : tOK Z) (hx : tXz (xtw SX) Z SX) (hh : SX 21 0 = nI h) (h9 : h ≤ 999) : Gv (fX11_together_h12 50000 50000 so 1 1 0 SX) (fun r => r.1 = 0 ∧ ansT (solZ Z h so (tn0 Z)) r.2.1 ∧ xSame SX r.2.2) := by
  have z8 := Zk.1.2
  have x0 : SX (xtw SX) 0 = nI (tn0 Z) := (hx 0 0 (by omega) (by omega)).trans Zk.1.1
  refine loopG (A := Nat) (fun f j k => fX11_together_h12 50000 f so (nI k) (nI (rhN Z so j)) (nI j) SX) (fun j k => 1 ≤ k ∧ k ≤ rhN Z so j ∧ ∀ n, 1 ≤ n → (solZ Z h so j n ↔ ∃ m, n = k + m * rhN Z so j)) _ (tn0 Z) ?_ ?_ (tn0 Z) 0 1 50000 (by omega) ⟨by omega, Nat.le_refl _, fun n n1 => ⟨fun _ => ⟨n - 1, by show n = 1 + (n - 1) * 1; omega⟩, fun _ k hk => by omega⟩⟩ (by omega)
  · rintro f k ⟨i1, i2, i3⟩
    obtain ⟨r1, r2⟩ := rh_ok (so := so) Zk (tn0 Z) (Nat.le_refl _)
    have hl := Nat.le_of_dvd (by decide) r2
    refine ⟨(0, nI k, SX), ?_, rfl, Or.inl ⟨k, i1, by omega, (i3 k i1).mpr ⟨0, by omega⟩, fun m m1 m2 q => ?_, rfl⟩, xSame.rf⟩
    · show fX11_together_b12 50000 _ so (nI k) _ (nI (tn0 Z)) SX = _
      unfold fX11_together_b12
      dsimp only [lt]
      rw [x0, if_pos (nI_le (Nat.le_refl _) (by omega))]
      rfl
    · obtain ⟨t, ht⟩ := (i3 m m1).mp q
      omega
  · rintro f j k hj ⟨i1, i2, i3⟩
    obtain ⟨r1, r2⟩ := rh_ok (so := so) Zk j (by omega)
    have hl := Nat.le_of_dvd (by decide) r2
    obtain ⟨d1, d2, d3, d4, d5⟩ := dp_ok Zk hj
    have hF : fX11_together_h12 50000 (f + 1) so (nI k) (nI (rhN Z so j)) (nI j) SX = if iv (bt so (nI j)) = 0 then fX11_together_b64 50000 (fX11_together_h12 50000 f) so (nI k) (nI (rhN Z so j)) (nI j) SX else fX11_together_b33 50000 (fX11_together_h12 50000 f) so (nI k) (nI (rhN Z so j)) (nI j) SX := by
      show fX11_together_b12 50000 (fX11_together_h12 50000 f) so (nI k) _ (nI j) SX = _
      unfold fX11_together_b12
      dsimp only [lt]
      rw [x0, if_neg (nI_ge hj (by omega))]
      unfold fX11_together_b24
      rw [bnd_t x_isOneOf]
    cases hb : bt so (nI j) with
    | false =>
      have eR : rhN Z so (j + 1) = rhN Z so j := if_neg (by rw [hb]; decide)
      refine Or.inr ⟨k, ⟨i1, by rw [eR]; exact i2, fun n n1 => ?_⟩, ?_⟩
      · rw [eR, solZ_s, ← i3 n n1]
        exact ⟨fun q => q.1, fun q => ⟨q, fun z => by rw [hb] at z; cases z⟩⟩
      · show fX11_together_h12 50000 (f + 1) so (nI k) (nI (rhN Z so j)) (nI j) SX = _
        rw [hF, hb, eR]
        show fX11_together_b64 50000 (fX11_together_h12 50000 f) so (nI k) (nI (rhN Z so j)) (nI j) SX = _
        unfold fX11_together_b64
        rw [nI_1]
    | true =>
      have eR : rhN Z so (j + 1) = Nat.lcm (rhN Z so j) (dpZ Z j) := if_pos hb
      have hF2 : fX11_together_h12 50000 (f + 1) so (nI k) (nI (rhN Z so j)) (nI j) SX = fX11_together_b33 50000 (fX11_together_h12 50000 f) so (nI k) (nI (rhN Z so j)) (nI j) SX := by
        rw [hF, hb]
        rfl
      rcases x_nextOf (j := j) (k := k) (L := rhN Z so j) Zk hx hh h9 hj i1 (by omega) hl with ⟨a, b⟩ | ⟨i0, a, b, c, e⟩
      · refine Or.inl ⟨(0, -1, SX), ?_, rfl, Or.inr ⟨fun n n1 q => ?_, rfl⟩, xSame.rf⟩
        · show fX11_together_h12 50000 (f + 1) so (nI k) (nI (rhN Z so j)) (nI j) SX = _
          rw [hF2]
          unfold fX11_together_b33
          rw [bnd_t a]
          rfl
        · refine tg_none (P := solZ Z h so j) i1 d2 i3 b n n1 ⟨fun t ht => q t (by omega), q j hj hb⟩
      · obtain ⟨t1, t2⟩ := tg_some (P := solZ Z h so j) i1 i2 d2 i3 c e
        refine Or.inr ⟨k + i0 * rhN Z so j, ⟨by omega, by rw [eR]; exact t1, fun n n1 => ?_⟩, ?_⟩
        · rw [eR, solZ_s, ← t2 n n1]
          exact ⟨fun q => ⟨q.1, q.2 hb⟩, fun q => ⟨q.1, fun _ => q.2⟩⟩
        · show fX11_together_h12 50000 (f + 1) so (nI k) (nI (rhN Z so j)) (nI j) SX = _
          rw [hF2]
          unfold fX11_together_b33
          have hiL : i0 * rhN Z so j ≤ 12 * 27720 := Nat.mul_le_mul (by omega) hl
          rw [bnd_t b]
          show (if nI (k + i0 * rhN Z so j) = -1 then _ else _) = _
          rw [if_neg (nI_nem (by omega))]
          unfold fX11_together_b49
          dsimp only [lt]
          rw [chk_t (inb_t (by omega) (by decide)), nI_clamp (by omega), hx 1 j (by omega) (by omega), d1, bnd_t (x_leastCommon r1 r2 d2 d3 (by decide)), eR]
          unfold fX11_together_b64
          rw [nI_1]
theorem solZ_dec {j n : Nat} : solZ Z h so j n ∨ ¬ solZ Z h so j n := Classical.em _
theorem m_together_h {S1 : gS} (Zk : tOK Z) (hM : tM Z S1) (hh : S1 99 37 = nI h) (h9 : h ≤ 999) (c0 : S1 99 4 = 0) (fin : ∀ n, 1 ≤ n → solZ Z h so (tn0 Z) n → ∃ m, 1 ≤ m ∧ m ≤ 27720 ∧ solZ Z h so (tn0 Z) m) : Gv (fX12_together_h21 50000 50000 so 1 S1) (fun r => ansT (solZ Z h so (tn0 Z)) r.1 ∧ mSame S1 r.2 ∧ r.2 99 4 = 0) := by
  have z8 := Zk.1.2
  refine loopG (A := Unit) (fun f n _ => fX12_together_h21 50000 f so (nI (n + 1)) S1) (fun n _ => ∀ m, 1 ≤ m → m ≤ n → ¬ solZ Z h so (tn0 Z) m) _ 30000 ?_ ?_ 30000 0 () 50000 (by omega) (fun m m1 m2 => by omega) (by omega)
  · intro f a i1
    refine ⟨(-1, S1), ?_, Or.inr ⟨fun n n1 q => ?_, rfl⟩, mSame.rf, c0⟩
    · show fX12_together_b21 50000 _ so (nI 30001) S1 = _
      unfold fX12_together_b21
      rw [if_pos (by decide)]
      rfl
    · obtain ⟨m, m1, m2, m3⟩ := fin n n1 q
      exact i1 m m1 (by omega) m3
  · intro f n a hn i1
    have inner : ∀ (r : Int32 → Int32 → gS → Option (Int32 × gS)), (solZ Z h so (tn0 Z) (n + 1) → fX12_together_h33 50000 r 50000 so (nI (n + 1)) 1 0 S1 = fX12_together_b86 50000 r so (nI (n + 1)) 1 S1) ∧ (¬ solZ Z h so (tn0 Z) (n + 1) → fX12_together_h33 50000 r 50000 so (nI (n + 1)) 1 0 S1 = fX12_together_b86 50000 r so (nI (n + 1)) 0 S1) := by
      intro r
      suffices L : ∀ (m j fuel : Nat), j + m = tn0 Z → m + 1 < fuel → solZ Z h so j (n + 1) → (solZ Z h so (tn0 Z) (n + 1) → fX12_together_h33 50000 r fuel so (nI (n + 1)) 1 (nI j) S1 = fX12_together_b86 50000 r so (nI (n + 1)) 1 S1) ∧ (¬ solZ Z h so (tn0 Z) (n + 1) → fX12_together_h33 50000 r fuel so (nI (n + 1)) 1 (nI j) S1 = fX12_together_b86 50000 r so (nI (n + 1)) 0 S1) from L (tn0 Z) 0 50000 (by omega) (by omega) (fun k hk => by omega)
      intro m
      induction m with
      | zero =>
        intro j fuel h1 h2 h3
        obtain ⟨g, rfl⟩ : ∃ g, fuel = g + 1 := ⟨fuel - 1, by omega⟩
        have : j = tn0 Z := by omega
        subst this
        refine ⟨fun _ => ?_, fun q => absurd h3 q⟩
        show fX12_together_b33 50000 r _ so (nI (n + 1)) 1 (nI (tn0 Z)) S1 = _
        unfold fX12_together_b33
        rw [hM.1, if_pos (nI_le (Nat.le_refl _) (by omega))]
      | succ m ih =>
        intro j fuel h1 h2 h3
        obtain ⟨g, rfl⟩ : ∃ g, fuel = g + 1 := ⟨fuel - 1, by omega⟩
        have hj : j < tn0 Z := by omega
        obtain ⟨d1, d2, d3, d4, d5⟩ := dp_ok Zk hj
        obtain ⟨m1, m2, -, -⟩ := hM.2.2.2.2.2.2.2.1 j hj
        have hF : fX12_together_h33 50000 r (g + 1) so (nI (n + 1)) 1 (nI j) S1 = if iv (bt so (nI j)) = 0 then fX12_together_b74 50000 r (fX12_together_h33 50000 r g) so (nI (n + 1)) (nI j) S1 else fX12_together_b57 50000 r (fX12_together_h33 50000 r g) so (nI (n + 1)) (nI j) S1 := by
          show fX12_together_b33 50000 r (fX12_together_h33 50000 r g) so (nI (n + 1)) 1 (nI j) S1 = _
          unfold fX12_together_b33
          rw [hM.1, if_neg (nI_ge hj (by omega))]
          unfold fX12_together_b44
          rw [if_neg (by decide)]
          unfold fX12_together_b48
          rw [bnd_t m_isOf]
        have go : solZ Z h so (j + 1) (n + 1) → fX12_together_h33 50000 r (g + 1) so (nI (n + 1)) 1 (nI j) S1 = fX12_together_h33 50000 r g so (nI (n + 1)) 1 (nI (j + 1)) S1 → (solZ Z h so (tn0 Z) (n + 1) → fX12_together_h33 50000 r (g + 1) so (nI (n + 1)) 1 (nI j) S1 = fX12_together_b86 50000 r so (nI (n + 1)) 1 S1) ∧ (¬ solZ Z h so (tn0 Z) (n + 1) → fX12_together_h33 50000 r (g + 1) so (nI (n + 1)) 1 (nI j) S1 = fX12_together_b86 50000 r so (nI (n + 1)) 0 S1) := by
          intro q1 q2
          rw [q2]
          exact ih (j + 1) g (by omega) (by omega) q1
        cases hb : bt so (nI j) with
        | false =>
          refine go (solZ_s.mpr ⟨h3, fun z => by rw [hb] at z; cases z⟩) ?_
          rw [hF, hb]
          show fX12_together_b74 50000 r (fX12_together_h33 50000 r g) so (nI (n + 1)) (nI j) S1 = _
          unfold fX12_together_b74 fX12_together_b79
          rw [nI_1]
        | true =>
          have hF2 : fX12_together_h33 50000 r (g + 1) so (nI (n + 1)) 1 (nI j) S1 = if iv (decide (cmN (h + phZ Z j) (dpZ Z j) (n + 1))) = 0 then fX12_together_b78 50000 r (fX12_together_h33 50000 r g) so (nI (n + 1)) (nI j) S1 else fX12_together_b74 50000 r (fX12_together_h33 50000 r g) so (nI (n + 1)) (nI j) S1 := by
            rw [hF, hb]
            show fX12_together_b57 50000 r (fX12_together_h33 50000 r g) so (nI (n + 1)) (nI j) S1 = _
            unfold fX12_together_b57
            rw [hh, ahead_ix (by omega), bnd_t (m_comesAt z8 hj (m1.trans d1) d2 d3), cm_S (p := phZ Z j) (d := dpZ Z j) (m2.trans d4) (m1.trans d1) d2 (by omega) (by omega) (by omega)]
          by_cases hc : cmN (h + phZ Z j) (dpZ Z j) (n + 1)
          · refine go (solZ_s.mpr ⟨h3, fun _ => hc⟩) ?_
            rw [hF2, decide_eq_true hc]
            show fX12_together_b74 50000 r (fX12_together_h33 50000 r g) so (nI (n + 1)) (nI j) S1 = _
            unfold fX12_together_b74 fX12_together_b79
            rw [nI_1]
          · refine ⟨fun q => absurd (q j hj hb) hc, fun _ => ?_⟩
            obtain ⟨g', rfl⟩ : ∃ g', g = g' + 1 := ⟨g - 1, by omega⟩
            rw [hF2, decide_eq_false hc]
            show fX12_together_b33 50000 r (fX12_together_h33 50000 r g') so (nI (n + 1)) 0 (nI j + 1) S1 = _
            rw [nI_1]
            unfold fX12_together_b33
            rw [hM.1]
            by_cases hl : nI (tn0 Z) ≤ nI (j + 1)
            · rw [if_pos hl]
            · rw [if_neg hl]
              unfold fX12_together_b44
              rw [if_pos rfl]
    have hF : fX12_together_h21 50000 (f + 1) so (nI (n + 1)) S1 = fX12_together_h33 50000 (fX12_together_h21 50000 f) 50000 so (nI (n + 1)) 1 0 S1 := by
      show fX12_together_b21 50000 (fX12_together_h21 50000 f) so (nI (n + 1)) S1 = _
      unfold fX12_together_b21
      rw [if_neg (show ¬ (30000 : Int32) < nI (n + 1) from nI_nlt (a := 30000) (by omega) (by decide))]
      rfl
    obtain ⟨in1, in2⟩ := inner (fX12_together_h21 50000 f)
    rcases solZ_dec (Z := Z) (h := h) (so := so) (j := tn0 Z) (n := n + 1) with q | q
    · refine Or.inl ⟨(nI (n + 1), S1), ?_, Or.inl ⟨n + 1, by omega, ?_, q, fun m m1 m2 => i1 m m1 (by omega), rfl⟩, mSame.rf, c0⟩
      · show fX12_together_h21 50000 (f + 1) so (nI (n + 1)) S1 = _
        rw [hF, in1 q]
        rfl
      · obtain ⟨m, m1, m2, m3⟩ := fin (n + 1) (by omega) q
        refine Nat.le_of_not_lt (fun z => i1 m m1 (by omega) m3)
    · refine Or.inr ⟨(), fun m m1 m2 => ?_, ?_⟩
      · by_cases hm : m = n + 1
        · rw [hm]; exact q
        · exact i1 m m1 (by omega)
      · show fX12_together_h21 50000 (f + 1) so (nI (n + 1)) S1 = _
        rw [hF, in2 q]
        show fX12_together_b92 50000 (fX12_together_h21 50000 f) so (nI (n + 1)) S1 = _
        unfold fX12_together_b92
        rw [nI_1]
end
theorem st_together : Lw_together JJ := by
  intro SX SM x1 hJ
  obtain ⟨S1, Z, h, qs, hS1, c0, hJ1, Zk, h9, C, M, K, w41, x0, x5⟩ := pre hJ
  have z8 := Zk.1.2
  have hF : fX12_together 50000 x1 SM = if iv (inb x1 (2 ^ tn0 Z)) = 0 then fX12_together_b13 50000 S1 else fX12_together_b19 50000 x1 S1 := by
    unfold fX12_together fX12_together_b0
    dsimp only [lt]
    rw [← hS1, bnd_t (m_isSome M.1.1 z8)]
  cases h1 : inb x1 (2 ^ tn0 Z) with
  | false =>
    refine stFl 50000 50000 2 hJ two_ne (Or.inr rfl) ?_ ?_
    · show fX11_together_b0 50000 x1 SX = _
      unfold fX11_together_b0
      rw [bnx_x (x_needGrottoes x0 z8) (by rw [h1]; exact two_ne), h1]
      rfl
    · show fX12_together 50000 x1 SM = _
      rw [hF, h1, ← hS1]
      rfl
  | true =>
  have hX := x_together_h (so := x1) Zk C.1 C.2.1 h9
  have fin : ∀ n, 1 ≤ n → solZ Z h x1 (tn0 Z) n → ∃ m, 1 ≤ m ∧ m ≤ 27720 ∧ solZ Z h x1 (tn0 Z) m := by
    intro n n1 q
    obtain ⟨r, -, -, hr, -⟩ := hX
    rcases hr with ⟨k, a1, a2, a3, -⟩ | ⟨a1, -⟩
    · exact ⟨k, a1, a2, a3⟩
    · exact absurd q (a1 n n1)
  refine stSr 50000 50000 (ansT (solZ Z h x1 (tn0 Z))) ansT.u hJ rfl (Or.inl rfl) ?_ ?_
  · have e : fX11_together 50000 x1 SX = fX11_together_h12 50000 50000 x1 1 1 0 SX := by
      show fX11_together_b0 50000 x1 SX = _
      unfold fX11_together_b0
      rw [bnx_t (x_needGrottoes x0 z8) (by rw [h1]; rfl)]
    show Gv (fX11_together 50000 x1 SX) _
    rw [e]
    exact hX
  · have e : fX12_together 50000 x1 SM = fX12_together_h21 50000 50000 x1 1 S1 := by
      rw [hF, h1]
      rfl
    show Gv (fX12_together 50000 x1 SM) _
    rw [e, ← hS1]
    exact m_together_h Zk M.1 M.2.2.1 h9 c0 fin
end

/-! part 67.atogive -/
section
/-! toGive -/
def ansL (c : Nat → Bool) (n : Nat) (v : Int32) : Prop := (∃ k, k < n ∧ c k = true ∧ (∀ i, i < k → c i = false) ∧ v = nI k) ∨ ((∀ i, i < n → c i = false) ∧ v = -1)
theorem ansL.u {c : Nat → Bool} {n : Nat} : ∀ v v', ansL c n v → ansL c n v' → v = v' := by
  rintro v v' (⟨k, a1, a2, a3, a4⟩ | ⟨a1, a2⟩) (⟨k', b1, b2, b3, b4⟩ | ⟨b1, b2⟩)
  · have : k = k' := by
      rcases Nat.lt_trichotomy k k' with h | h | h
      · rw [b3 k h] at a2; cases a2
      · exact h
      · rw [a3 k' h] at b2; cases b2
    rw [a4, b4, this]
  · rw [b1 k a1] at a2; cases a2
  · rw [a1 k' b1] at b2; cases b2
  · rw [a2, b2]
theorem fH_gone {Z : gS} {e we ho : Int32} {q : qT} (h : q.2.2.2 = -1) : (fH Z e we ho q).2 = -1 := by
  unfold fH
  rw [if_pos h]
theorem trj_gone {Z : gS} {e d : Int32} {wf : Nat → Int32} {h : Nat} {q : qT} {k : Nat} (hk : (trj Z e d wf h q k).2.2.2 = -1) : ∀ m, (trj Z e d wf h q (k + m)).2.2.2 = -1 := by
  intro m
  induction m with
  | zero => exact hk
  | succ m ih => exact fH_gone (q := (sn1 Z e d (wf (h + (k + m))) (nI (h + (k + m))) (trj Z e d wf h q (k + m)), (trj Z e d wf h q (k + m)).2)) ih
noncomputable def puq (q : qT) (v : Nat) : qT := (q.1, nI v, q.2.2)
noncomputable def kpB (Z : gS) (e d : Int32) (h n : Nat) (q : qT) (v : Nat) : Bool := decide (¬ (trj Z e d (wetZ Z) h (puq q v) n).2.2.2 = -1)
theorem puq_ok {n0 v : Nat} {q : qT} (h : qOK n0 q) (hv : v ≤ 999) : qOK n0 (puq q v) := ⟨h.1, of_999 hv, h.2.2⟩
section
variable {Z SX : gS} {h n g : Nat} {d : Int32} {qs : Nat → qT}
theorem x_keeps {S : gS} {v : Nat} (Zk : tOK Z) (C : cSit 21 Z SX h d qs) (K : qsOK Z (Z 5) qs) (hg : g < tn1 Z) (h9 : h ≤ 999) (hn : n ≤ 60) (hv : v ≤ 999) (s : oSame xWk SX S) : ∃ S', fX11_keeps 5000 (nI g) (nI n) (nI v) S = some (iv (kpB Z (Z 5 g) d h n (qs g) v), S') ∧ oSame xWk SX S' := by
  have C' := C.on (Or.inl rfl) s
  obtain ⟨X1, b1, b2, b3⟩ := x_begin (N := 5000) (Or.inl rfl) Zk C' hg (by omega)
  have he := K.2.2 g hg
  have hq := puq_ok (v := v) (K.1 g hg) hv
  have b5 : wkA (sU X1 51 2 (nI v)) (Z 5 g) d (nI h) (puq (qs g) v) := by
    obtain ⟨w0, w1, w2, w3, w4, w5, w7⟩ := b2
    refine ⟨?_, ?_, sU_s, ?_, ?_, ?_, ?_⟩ <;> rw [sU_n (by omega)] <;> assumption
  have main : Gv (fX11_keeps_h30 5000 5000 (nI n) 0 (sU X1 51 2 (nI v))) (fun r => r.1 = iv (kpB Z (Z 5 g) d h n (qs g) v) ∧ oSame xWk SX r.2) := by
    refine loopG (A := gS) (fun f k S => fX11_keeps_h30 5000 f (nI n) (nI k) S) (fun k S' => wkA S' (Z 5 g) d (nI (h + k)) (trj Z (Z 5 g) d (wetZ Z) h (puq (qs g) v) k) ∧ oSame xWk SX S') _ n ?_ ?_ n 0 _ 5000 (by omega) ⟨b5, (s.tr b3).up rfl⟩ (by omega)
    · rintro f S1 ⟨i1, i2⟩
      refine ⟨(iv (kpB Z (Z 5 g) d h n (qs g) v), S1), ?_, rfl, i2⟩
      show fX11_keeps_b30 5000 _ (nI n) (nI n) S1 = _
      unfold fX11_keeps_b30
      rw [if_pos (nI_le (Nat.le_refl _) (by omega))]
      unfold fX11_keeps_b79 kpB
      rw [i1.2.2.2.2.1]
      by_cases hz : (trj Z (Z 5 g) d (wetZ Z) h (puq (qs g) v) n).2.2.2 = -1
      · rw [if_pos hz, decide_eq_false (fun q => q hz)]; rfl
      · rw [if_neg hz, decide_eq_true hz]; rfl
    · rintro f k S1 hk ⟨i1, i2⟩
      by_cases hz : (trj Z (Z 5 g) d (wetZ Z) h (puq (qs g) v) k).2.2.2 = -1
      · refine Or.inl ⟨(iv (kpB Z (Z 5 g) d h n (qs g) v), S1), ?_, rfl, i2⟩
        have hz2 := trj_gone hz (n - k)
        rw [show k + (n - k) = n by omega] at hz2
        show fX11_keeps_b30 5000 _ (nI n) (nI k) S1 = _
        unfold fX11_keeps_b30
        rw [if_neg (nI_ge hk (by omega))]
        unfold fX11_keeps_b36 fX11_keeps_b79 kpB
        rw [i1.2.2.2.2.1, if_pos hz, if_pos hz, decide_eq_false (fun q => q hz2)]
        rfl
      · have hT : tXz (xtw SX) Z S1 := C.1.on xtw_cases i2
        obtain ⟨S2, r1, r2, r3⟩ := x_passHour (N := 5000) (we := wetZ Z (h + k)) xtw_cases Zk hT (trj_ok hq he k) he i1 (by decide)
        rw [nI_1] at r2
        refine Or.inr ⟨S2, ⟨r2, i2.tr r3⟩, ?_⟩
        show fX11_keeps_b30 5000 (fX11_keeps_h30 5000 f) (nI n) (nI k) S1 = _
        unfold fX11_keeps_b30
        rw [if_neg (nI_ge hk (by omega))]
        unfold fX11_keeps_b36
        rw [i1.2.2.2.2.1, if_neg hz]
        unfold fX11_keeps_b47
        dsimp only [lt]
        rw [xWk.tw i2, i1.2.2.2.2.2.1, bnd_t (x_wetZ Zk hT (by omega))]
        dsimp only
        rw [bnd_t r1, nI_1]
  obtain ⟨⟨u, S'⟩, r1, r2, r3⟩ := main
  dsimp only at r2 r3
  subst r2
  refine ⟨S', ?_, r3⟩
  unfold fX11_keeps fX11_keeps_b0
  dsimp only [lt]
  rw [bnd_t b1]
  exact r1
theorem x_leastAll {S : gS} (Zk : tOK Z) (C : cSit 21 Z SX h d qs) (K : qsOK Z (Z 5) qs) (hg : g < tn1 Z) (h9 : h ≤ 999) (hn : n ≤ 60) (s : oSame xWk SX S) : ∃ v S', fX11_leastOfAllPurses 5000 (nI g) (nI n) S = some (v, S') ∧ ansL (kpB Z (Z 5 g) d h n (qs g)) 1000 v ∧ oSame xWk SX S' := by
  have main : Gv (fX11_leastOfAllPurses_h2 5000 5000 (nI g) (nI n) 0 S) (fun r => ansL (kpB Z (Z 5 g) d h n (qs g)) 1000 r.1 ∧ oSame xWk SX r.2) := by
    refine loopG (A := gS) (fun f v S => fX11_leastOfAllPurses_h2 5000 f (nI g) (nI n) (nI v) S) (fun v S' => (∀ i, i < v → kpB Z (Z 5 g) d h n (qs g) i = false) ∧ oSame xWk SX S') _ 1000 ?_ ?_ 1000 0 S 5000 (by omega) ⟨fun i hi => by omega, s⟩ (by omega)
    · rintro f S1 ⟨i1, i2⟩
      refine ⟨(-1, S1), ?_, Or.inr ⟨i1, rfl⟩, i2⟩
      show fX11_leastOfAllPurses_b2 5000 _ (nI g) (nI n) (nI 1000) S1 = _
      unfold fX11_leastOfAllPurses_b2
      rw [if_pos (by decide)]
      rfl
    · rintro f v S1 hv ⟨i1, i2⟩
      obtain ⟨S2, r1, r2⟩ := x_keeps (v := v) Zk C K hg h9 hn (by omega) i2
      have hF : fX11_leastOfAllPurses_h2 5000 (f + 1) (nI g) (nI n) (nI v) S1 = if iv (kpB Z (Z 5 g) d h n (qs g) v) = 0 then fX11_leastOfAllPurses_b21 5000 (fX11_leastOfAllPurses_h2 5000 f) (nI g) (nI n) (nI v) S2 else fX11_leastOfAllPurses_b19 5000 (nI v) S2 := by
        show fX11_leastOfAllPurses_b2 5000 (fX11_leastOfAllPurses_h2 5000 f) (nI g) (nI n) (nI v) S1 = _
        unfold fX11_leastOfAllPurses_b2
        rw [if_neg (show ¬ (999 : Int32) < nI v from nI_nlt (a := 999) (by omega) (by decide))]
        unfold fX11_leastOfAllPurses_b9
        rw [bnd_t r1]
      cases hb : kpB Z (Z 5 g) d h n (qs g) v with
      | false =>
        refine Or.inr ⟨S2, ⟨fun i hi => ?_, r2⟩, ?_⟩
        · by_cases hi2 : i = v
          · rw [hi2]; exact hb
          · exact i1 i (by omega)
        · show fX11_leastOfAllPurses_h2 5000 (f + 1) (nI g) (nI n) (nI v) S1 = _
          rw [hF, hb]
          show fX11_leastOfAllPurses_b21 5000 (fX11_leastOfAllPurses_h2 5000 f) (nI g) (nI n) (nI v) S2 = _
          unfold fX11_leastOfAllPurses_b21
          rw [nI_1]
      | true =>
        refine Or.inl ⟨(nI v, S2), ?_, Or.inl ⟨v, hv, hb, i1, rfl⟩, r2⟩
        show fX11_leastOfAllPurses_h2 5000 (f + 1) (nI g) (nI n) (nI v) S1 = _
        rw [hF, hb]
        rfl
  obtain ⟨⟨v, S'⟩, r1, r2, r3⟩ := main
  exact ⟨v, S', r1, r2, r3⟩
theorem x_leastHalf {S : gS} (Zk : tOK Z) (C : cSit 21 Z SX h d qs) (K : qsOK Z (Z 5) qs) (hg : g < tn1 Z) (h9 : h ≤ 999) (hn : n ≤ 60) (mono : ∀ u v, u ≤ v → v ≤ 999 → kpB Z (Z 5 g) d h n (qs g) u = true → kpB Z (Z 5 g) d h n (qs g) v = true) (s : oSame xWk SX S) : ∃ v S', fX11_leastByHalves 5000 (nI g) (nI n) S = some (v, S') ∧ ansL (kpB Z (Z 5 g) d h n (qs g)) 1000 v ∧ oSame xWk SX S' := by
  have fin : ∀ lo S1, lo ≤ 1000 → (∀ i, i < lo → kpB Z (Z 5 g) d h n (qs g) i = false) → (lo ≤ 999 → kpB Z (Z 5 g) d h n (qs g) lo = true) → oSame xWk SX S1 → Gv (fX11_leastByHalves_b69 5000 (nI lo) S1) (fun r => ansL (kpB Z (Z 5 g) d h n (qs g)) 1000 r.1 ∧ oSame xWk SX r.2) := by
    intro lo S1 h1 h2 h3 s1
    unfold fX11_leastByHalves_b69
    by_cases hl : lo ≤ 999
    · rw [if_pos (show nI lo ≤ 999 from nI_le (b := 999) hl (by decide))]
      exact ⟨(nI lo, S1), rfl, Or.inl ⟨lo, by omega, h3 hl, h2, rfl⟩, s1⟩
    · rw [if_neg (show ¬ nI lo ≤ 999 from nI_ge (a := 999) (by omega) (by omega))]
      exact ⟨(-1, S1), rfl, Or.inr ⟨fun i hi => h2 i (by omega), rfl⟩, s1⟩
  have main : Gv (fX11_leastByHalves_h10 5000 5000 (nI g) (nI n) (nI 0) (nI 1000) 0 S) (fun r => ansL (kpB Z (Z 5 g) d h n (qs g)) 1000 r.1 ∧ oSame xWk SX r.2) := by
    refine loopG (A := Nat × Nat × gS) (fun f i a => fX11_leastByHalves_h10 5000 f (nI g) (nI n) (nI a.1) (nI a.2.1) (nI i) a.2.2) (fun i a => a.1 ≤ a.2.1 ∧ a.2.1 ≤ 1000 ∧ a.2.1 - a.1 + i ≤ 1000 ∧ (∀ i, i < a.1 → kpB Z (Z 5 g) d h n (qs g) i = false) ∧ (a.2.1 ≤ 999 → kpB Z (Z 5 g) d h n (qs g) a.2.1 = true) ∧ oSame xWk SX a.2.2) _ 1000 ?_ ?_ 1000 0 (0, 1000, S) 5000 (by omega) ⟨Nat.zero_le _, Nat.le_refl _, Nat.le_refl _, fun i hi => absurd hi (Nat.not_lt_zero _), fun hh => absurd hh (show ¬ 1000 ≤ 999 by decide), s⟩ (by omega)
    · rintro f ⟨lo, hi, S1⟩ ⟨i1, i2, i3, i4, i5, i6⟩
      dsimp only at i1 i2 i3 i4 i5 i6
      have : lo = hi := by omega
      subst this
      show Gv (fX11_leastByHalves_b10 5000 _ (nI g) (nI n) (nI lo) (nI lo) (nI 1000) S1) _
      unfold fX11_leastByHalves_b10
      rw [if_pos (by decide)]
      exact fin lo S1 i2 i4 i5 i6
    · rintro f i ⟨lo, hi, S1⟩ hi1 ⟨i1, i2, i3, i4, i5, i6⟩
      dsimp only at i1 i2 i3 i4 i5 i6
      have h10 : fX11_leastByHalves_h10 5000 (f + 1) (nI g) (nI n) (nI lo) (nI hi) (nI i) S1 = fX11_leastByHalves_b18 5000 (fX11_leastByHalves_h10 5000 f) (nI g) (nI n) (nI lo) (nI hi) (nI i) S1 := by
        show fX11_leastByHalves_b10 5000 (fX11_leastByHalves_h10 5000 f) (nI g) (nI n) (nI lo) (nI hi) (nI i) S1 = _
        unfold fX11_leastByHalves_b10
        rw [if_neg (show ¬ (999 : Int32) < nI i from nI_nlt (a := 999) (by omega) (by decide))]
      by_cases he : lo = hi
      · subst he
        refine Or.inl ?_
        show Gv (fX11_leastByHalves_h10 5000 (f + 1) (nI g) (nI n) (nI lo) (nI lo) (nI i) S1) _
        rw [h10]
        unfold fX11_leastByHalves_b18
        rw [if_pos (nI_le (Nat.le_refl _) (by omega))]
        exact fin lo S1 i2 i4 i5 i6
      · obtain ⟨mi, hmi⟩ : ∃ z, z = (lo + hi) / 2 := ⟨_, rfl⟩
        have em : (nI lo + nI hi) / 2 = nI mi := by rw [nI_add, show (2 : Int32) = nI 2 from rfl, pk_div (by omega) (by decide) (by decide), hmi]
        obtain ⟨S2, r1, r2⟩ := x_keeps (v := mi) Zk C K hg h9 hn (by omega) i6
        have hF : fX11_leastByHalves_h10 5000 (f + 1) (nI g) (nI n) (nI lo) (nI hi) (nI i) S1 = if iv (kpB Z (Z 5 g) d h n (qs g) mi) = 0 then fX11_leastByHalves_b58 5000 (fX11_leastByHalves_h10 5000 f) (nI g) (nI n) (nI hi) (nI i) (nI mi) S2 else fX11_leastByHalves_b51 5000 (fX11_leastByHalves_h10 5000 f) (nI g) (nI n) (nI lo) (nI i) (nI mi) S2 := by
          rw [h10]
          unfold fX11_leastByHalves_b18
          rw [if_neg (nI_ge (by omega) (by omega))]
          unfold fX11_leastByHalves_b24
          rw [em, if_neg (show ¬ (999 : Int32) < nI mi from nI_nlt (a := 999) (by omega) (by decide))]
          unfold fX11_leastByHalves_b40
          rw [bnd_t r1]
        cases hb : kpB Z (Z 5 g) d h n (qs g) mi with
        | false =>
          refine Or.inr ⟨(mi + 1, hi, S2), ⟨by dsimp only; omega, i2, by dsimp only; omega, fun t ht => ?_, i5, r2⟩, ?_⟩
          · dsimp only at ht
            cases hk : kpB Z (Z 5 g) d h n (qs g) t with
            | false => rfl
            | true =>
              rw [mono t mi (by omega) (by omega) hk] at hb
              cases hb
          · show fX11_leastByHalves_h10 5000 (f + 1) (nI g) (nI n) (nI lo) (nI hi) (nI i) S1 = _
            rw [hF, hb]
            show fX11_leastByHalves_b58 5000 (fX11_leastByHalves_h10 5000 f) (nI g) (nI n) (nI hi) (nI i) (nI mi) S2 = _
            unfold fX11_leastByHalves_b58 fX11_leastByHalves_b63
            rw [nI_1, nI_1]
        | true =>
          refine Or.inr ⟨(lo, mi, S2), ⟨by dsimp only; omega, by dsimp only; omega, by dsimp only; omega, i4, fun _ => hb, r2⟩, ?_⟩
          show fX11_leastByHalves_h10 5000 (f + 1) (nI g) (nI n) (nI lo) (nI hi) (nI i) S1 = _
          rw [hF, hb]
          show fX11_leastByHalves_b51 5000 (fX11_leastByHalves_h10 5000 f) (nI g) (nI n) (nI lo) (nI i) (nI mi) S2 = _
          unfold fX11_leastByHalves_b51 fX11_leastByHalves_b63
          rw [nI_1]
  obtain ⟨⟨v, S'⟩, r1, r2, r3⟩ := main
  exact ⟨v, S', r1, r2, r3⟩
theorem x_minds {N k0 m : Nat} {S : gS} (hn : S k0 3 = nI m) (h7 : m ≤ 700) (hN : 700 < N) : ∃ b : Bool, fX4_minds N k0 10001 S = some (iv b, S) ∧ (b = false → ∀ j, j < m → S (k0 + 1) j ≠ 10001) := by
  have main : Gv (fX4_minds_h2 N N k0 10001 0 S) (fun r => ∃ b : Bool, r = (iv b, S) ∧ (b = false → ∀ j, j < m → S (k0 + 1) j ≠ 10001)) := by
    refine loopG (A := Unit) (fun f i _ => fX4_minds_h2 N f k0 10001 (nI i) S) (fun i _ => ∀ j, j < i → S (k0 + 1) j ≠ 10001) _ m ?_ ?_ m 0 () N (by omega) (fun j hj => by omega) (by omega)
    · intro f a i1
      refine ⟨(0, S), ?_, false, rfl, fun _ => i1⟩
      show fX4_minds_b2 N _ k0 10001 (nI m) S = _
      unfold fX4_minds_b2
      rw [hn, if_pos (nI_le (Nat.le_refl _) (by omega))]
      rfl
    · intro f i a hi i1
      have hF : fX4_minds_h2 N (f + 1) k0 10001 (nI i) S = if S (k0 + 1) i = 10001 then fX4_minds_b20 N S else fX4_minds_b22 N (fX4_minds_h2 N f) k0 10001 (nI i) S := by
        show fX4_minds_b2 N (fX4_minds_h2 N f) k0 10001 (nI i) S = _
        unfold fX4_minds_b2
        rw [hn, if_neg (nI_ge hi (by omega))]
        unfold fX4_minds_b10
        rw [chk_t (inb_t (by omega) (by decide)), nI_clamp (by omega)]
      by_cases hc : S (k0 + 1) i = 10001
      · refine Or.inl ⟨(1, S), ?_, true, rfl, fun z => by cases z⟩
        show fX4_minds_h2 N (f + 1) k0 10001 (nI i) S = _
        rw [hF, if_pos hc]
        rfl
      · refine Or.inr ⟨(), fun j hj => ?_, ?_⟩
        · by_cases hj2 : j = i
          · rw [hj2]; exact hc
          · exact i1 j (by omega)
        · show fX4_minds_h2 N (f + 1) k0 10001 (nI i) S = _
          rw [hF, if_neg hc]
          unfold fX4_minds_b22
          rw [nI_1]
  obtain ⟨r, r1, b, rfl, r2⟩ := main
  exact ⟨b, r1, r2⟩
end
/-! where no rule minds PURSE, more of it does no harm -/
theorem env_pu {Z : gS} {k : Nat} {si pu pu' we ho gr : Int32} {c : Nat → Int32} {n : Nat} (ok : rOK c n) (hm : ∀ j, j < n → c j ≠ 10001) : rV c n (env Z k si pu we ho gr) = rV c n (env Z k si pu' we ho gr) := by
  refine rV_env ok (fun i hi hx => ?_)
  rcases (show i = 0 ∨ i = 1 ∨ i = 2 ∨ i = 3 ∨ i = 4 ∨ i = 5 ∨ i = 6 by omega) with rfl | rfl | rfl | rfl | rfl | rfl | rfl
  · rfl
  · obtain ⟨j, hj, e⟩ := hx
    exact absurd e (hm j hj)
  · rfl
  · rfl
  · rfl
  · rfl
  · rfl
section
variable {Z : gS} {e d : Int32}
def noPu (Z : gS) : Prop := (∀ j, j < tnp Z → Z 11 j ≠ 10001) ∧ ∀ j, j < tnc Z → Z 14 j ≠ 10001
/-- the one with less and the one with more, as long as the first keeps its GROTTO -/
def leQ (a b : qT) : Prop := a.1 = b.1 ∧ a.2.2 = b.2.2 ∧ ∃ x y : Nat, x ≤ y ∧ y ≤ 999 ∧ a.2.1 = nI x ∧ b.2.1 = nI y
theorem prZ_pu {k : Nat} {si pu pu' we ho gr : Int32} (Zk : tOK Z) (np : noPu Z) : prZ Z k si pu we ho gr = prZ Z k si pu' we ho gr := by
  unfold prZ
  rw [env_pu Zk.2.2.2.2.2.2.1.2.2 np.1 (pu := pu) (pu' := pu')]
theorem coZ_pu {k : Nat} {si pu pu' we ho gr : Int32} (Zk : tOK Z) (np : noPu Z) : coZ Z k si pu we ho gr = coZ Z k si pu' we ho gr := by
  unfold coZ
  rw [env_pu Zk.2.2.2.2.2.2.2.2.2 np.2 (pu := pu) (pu' := pu')]
theorem leQ_hour {we ho : Int32} {a b : qT} (Zk : tOK Z) (np : noPu Z) (he : eOK e) (h : leQ a b) (hk : ¬ (hG Z e d we ho a).2.2.2.2 = -1) : leQ (hG Z e d we ho a).2 (hG Z e d we ho b).2 := by
  obtain ⟨h1, h2, x, y, hxy, hy, ex, ey⟩ := h
  obtain ⟨g, g9, rfl⟩ := he
  have hs : sn1 Z (nI g) d we ho a = sn1 Z (nI g) d we ho b := by
    unfold sn1 qk prD
    rw [h1, h2]
    by_cases q1 : b.2.2.2 = -1
    · rw [if_pos q1, if_pos q1]
    · rw [if_neg q1, if_neg q1, prZ_pu (pu := a.2.1) (pu' := b.2.1) Zk np, prZ_pu (si := prZ Z b.2.2.2.toNatClampNeg b.1 b.2.1 we ho (nI g)) (pu := a.2.1) (pu' := b.2.1) Zk np]
  obtain ⟨a', ha'⟩ : ∃ z : qT, z = (sn1 Z (nI g) d we ho a, a.2) := ⟨_, rfl⟩
  obtain ⟨b', hb'⟩ : ∃ z : qT, z = (sn1 Z (nI g) d we ho b, b.2) := ⟨_, rfl⟩
  have a1 : a'.1 = b'.1 := by rw [ha', hb']; exact hs
  have a22 : a'.2.2 = b'.2.2 := by rw [ha', hb']; exact h2
  have ax : a'.2.1 = nI x := by rw [ha']; exact ex
  have bx : b'.2.1 = nI y := by rw [hb']; exact ey
  unfold hG at hk ⊢
  rw [← ha'] at hk ⊢
  rw [← hb']
  clear ha' hb' hs
  have eS : fS (nI g) a' = fS (nI g) b' := by unfold fS; rw [a1]
  have eC : fC Z (nI g) we ho a' = fC Z (nI g) we ho b' := by
    unfold fC qk
    rw [eS, a22]
    exact coZ_pu Zk np
  have eB : fB Z (nI g) a' = fB Z (nI g) b' := by unfold fB; rw [eS]
  have pA : fP (nI g) a' = nI (min 999 (x + 3 * g)) := by unfold fP; rw [ax, hp1_n g9 (by omega)]
  have pB : fP (nI g) b' = nI (min 999 (y + 3 * g)) := by unfold fP; rw [bx, hp1_n g9 (by omega)]
  obtain ⟨c, hc, ec⟩ : ∃ c : Nat, c ≤ 50 ∧ fC Z (nI g) we ho b' = nI c := c50_n _
  have hk2 : ¬ (fH Z (nI g) we ho a').2 = -1 := hk
  have key : ∃ u v : Nat, u ≤ v ∧ v ≤ 999 ∧ fH Z (nI g) we ho a' = (nI u, a'.2.2.2) ∧ fH Z (nI g) we ho b' = (nI v, a'.2.2.2) := by
    unfold fH at hk2 ⊢
    rw [← a22]
    by_cases q1 : a'.2.2.2 = -1
    · rw [if_pos q1] at hk2
      exact absurd rfl hk2
    · rw [if_neg q1] at hk2 ⊢
      rw [if_neg q1, eC, ec, pA, pB]
      rw [eC, ec, pA] at hk2
      by_cases q2 : nI (min 999 (x + 3 * g)) < nI c
      · rw [if_pos q2] at hk2
        exact absurd rfl hk2
      · have q3 : c ≤ min 999 (x + 3 * g) := by
          have := mt (nI_ltI (a := min 999 (x + 3 * g)) (b := c) (by omega) (by omega)).mpr q2
          omega
        rw [if_neg q2, if_neg (nI_nlt (by omega) (by omega)), pk_sub q3, pk_sub (by omega)]
        exact ⟨_, _, by omega, by omega, rfl, rfl⟩
  obtain ⟨u, v, huv, hv, eu, ev⟩ := key
  refine ⟨eS, ?_, ?_⟩
  · show ((if fB Z (nI g) a' = true then sl1 a'.2.2.1 else a'.2.2.1), (fH Z (nI g) we ho a').2) = ((if fB Z (nI g) b' = true then sl1 b'.2.2.1 else b'.2.2.1), (fH Z (nI g) we ho b').2)
    rw [eB, eu, ev, a22]
  · show ∃ x y : Nat, x ≤ y ∧ y ≤ 999 ∧ (if fB Z (nI g) a' = true then (fH Z (nI g) we ho a').1 / 2 else (fH Z (nI g) we ho a').1) = nI x ∧ (if fB Z (nI g) b' = true then (fH Z (nI g) we ho b').1 / 2 else (fH Z (nI g) we ho b').1) = nI y
    rw [eB, eu, ev]
    by_cases hb : fB Z (nI g) b' = true
    · rw [if_pos hb, if_pos hb, show (2 : Int32) = nI 2 from rfl, pk_div (by omega) (by decide) (by decide), pk_div (by omega) (by decide) (by decide)]
      exact ⟨u / 2, v / 2, by omega, by omega, rfl, rfl⟩
    · rw [if_neg hb, if_neg hb]
      exact ⟨u, v, huv, hv, rfl, rfl⟩
theorem kp_mono {h n : Nat} {q : qT} (Zk : tOK Z) (np : noPu Z) (he : eOK e) : ∀ u v, u ≤ v → v ≤ 999 → kpB Z e d h n q u = true → kpB Z e d h n q v = true := by
  intro u v huv hv hu
  have hu2 := of_decide_eq_true hu
  have key : ∀ k, k ≤ n → leQ (trj Z e d (wetZ Z) h (puq q u) k) (trj Z e d (wetZ Z) h (puq q v) k) := by
    intro k
    induction k with
    | zero => intro _; exact ⟨rfl, rfl, u, v, huv, hv, rfl, rfl⟩
    | succ k ih =>
      intro hk
      refine leQ_hour Zk np he (ih (by omega)) (fun z => ?_)
      have hz := trj_gone (Z := Z) (e := e) (d := d) (wf := wetZ Z) (h := h) (q := puq q u) (k := k + 1) z (n - (k + 1))
      rw [show k + 1 + (n - (k + 1)) = n by omega] at hz
      exact hu2 hz
  obtain ⟨-, k2, -⟩ := key n (Nat.le_refl _)
  unfold kpB
  rw [← show (trj Z e d (wetZ Z) h (puq q u) n).2.2.2 = (trj Z e d (wetZ Z) h (puq q v) n).2.2.2 from congrArg Prod.snd k2]
  exact hu
end
end

/-! part 68.atogive -/
section
/-! toGive: the reference, the law -/
theorem m_toGive_h {Z S1 S2 : gS} {h n g : Nat} {d : Int32} {qs : Nat → qT} (Zk : tOK Z) (K : qsOK Z (Z 5) qs) (hg : g < tn1 Z) (h9 : h ≤ 999) (hn : n ≤ 60) (hne : ¬ (qs g).2.2.2 = -1) (M : mSit Z S1 h d (Z 5) qs) (w41 : S1 99 41 = -1) (c0 : S2 99 4 = 0) (s12 : mSame S1 S2) (E : ∀ S, (∀ j, S 46 j = S2 46 j) → oSame mQ S1 S → ∃ S4, fX12_unpack 5000 46 0 S = some (0, S4) ∧ mSame S1 S4 ∧ S4 99 4 = S 99 4 ∧ ∀ i j, S4 i j = if mPk i j = true then S1 i j else S i j) : Gv (fX12_toGive_h59 5000 5000 (nI g) (nI n) (qs g).2.2.2 (-1) 0 S2) (fun r => ansL (kpB Z (Z 5 g) d h n (qs g)) 1000 r.1 ∧ mSame S1 r.2 ∧ r.2 99 4 = 0) := by
  have z6 := Zk.2.1.2
  have hgc : (nI g).toNatClampNeg = g := nI_clamp (by omega)
  have hin : inb (nI g) 6 = true := inb_t (by omega) (by decide)
  refine loopG (A := Int32 × gS) (fun f v a => fX12_toGive_h59 5000 f (nI g) (nI n) (qs g).2.2.2 a.1 (nI v) a.2) (fun v a => mSame S1 a.2 ∧ a.2 99 4 = 0 ∧ (∀ j, a.2 46 j = S2 46 j) ∧ ((a.1 = -1 ∧ ∀ i, i < v → kpB Z (Z 5 g) d h n (qs g) i = false) ∨ (¬ a.1 = -1 ∧ ansL (kpB Z (Z 5 g) d h n (qs g)) 1000 a.1))) _ 1000 ?_ ?_ 1000 0 (-1, S2) 5000 (by omega) ⟨s12, c0, fun _ => rfl, Or.inl ⟨rfl, fun i hi => by omega⟩⟩ (by omega)
  · rintro f ⟨b, S⟩ ⟨i1, i2, i3, i4⟩
    dsimp only at i1 i2 i3 i4
    refine ⟨(b, S), ?_, ?_, i1, i2⟩
    · show fX12_toGive_b59 5000 _ (nI g) (nI n) _ b (nI 1000) S = _
      unfold fX12_toGive_b59
      rw [if_pos (by decide)]
      rfl
    · rcases i4 with ⟨q1, q2⟩ | ⟨q1, q2⟩
      · exact Or.inr ⟨q2, q1⟩
      · exact q2
  · rintro f v ⟨b, S⟩ hv ⟨i1, i2, i3, i4⟩
    dsimp only at i1 i2 i3 i4
    have h59 : ∀ c, fX12_toGive_h59 5000 (f + 1) (nI g) (nI n) (qs g).2.2.2 c (nI v) S = fX12_toGive_b67 5000 (fX12_toGive_h59 5000 f) (nI g) (nI n) (qs g).2.2.2 c (nI v) S := by
      intro c
      show fX12_toGive_b59 5000 (fX12_toGive_h59 5000 f) (nI g) (nI n) _ c (nI v) S = _
      unfold fX12_toGive_b59
      rw [if_neg (show ¬ (999 : Int32) < nI v from nI_nlt (a := 999) (by omega) (by decide))]
    rcases i4 with ⟨q1, q2⟩ | ⟨q1, q2⟩
    · subst q1
      have M' := M.on i1
      obtain ⟨m1, m2, m3, m4⟩ := M'.2.2.2.2 g hg
      have hq := puq_ok (v := v) (K.1 g hg) (by omega)
      have hu : (puq (qs g) v).2.2.2 = -1 ∨ ∀ g', g' < tn1 Z → g' ≠ g → (qs g').2.2.2 ≠ (puq (qs g) v).2.2.2 := Or.inr (fun g' hg' hx hh => hx (K.2.1 g' g hg' hg hh (fun q => hne (hh.symm.trans q))))
      have M2 : mSit Z (sU S 33 g (nI v)) h d (Z 5) (upq qs g (puq (qs g) v)) := M'.up (fun i j hij => sU_n (by omega)) (by rw [sU_n (by omega)]; exact m1) sU_s (by rw [sU_n (by omega)]; exact m3) (by rw [sU_n (by omega)]; exact m4)
      have s35 : oSame mHo S (sU S 33 g (nI v)) := mHo_of (g := g) (by omega) (fun i j hij => sU_n (by omega))
      obtain ⟨S3, r1, r2, r3⟩ := m_goOn (N := 5000) (n := n) Zk (K.up hq hu).h (by omega) (by decide) (by omega) M2 (by rw [s35 99 41 rfl, i1 99 41 rfl]; exact w41)
      obtain ⟨S4, u1, u2, u3, u4⟩ := E S3 (fun j => by rw [r3 46 j rfl, s35 46 j rfl]; exact i3 j) (i1.q.tr (s35.q.tr r3.q))
      have e35 : S3 35 g = (trj Z (Z 5 g) d (wetZ Z) h (puq (qs g) v) n).2.2.2 := by
        have := (r2.2.2.2.2 g hg).2.2.2
        rw [this]
        dsimp only
        rw [upq_s]
      have k4 : S4 99 4 = 0 := by rw [u3, r3 99 4 rfl, s35 99 4 rfl]; exact i2
      have k46 : ∀ j, S4 46 j = S2 46 j := fun j => by
        rw [u4 46 j]
        show S3 46 j = S2 46 j
        rw [r3 46 j rfl, s35 46 j rfl]; exact i3 j
      have hF : fX12_toGive_h59 5000 (f + 1) (nI g) (nI n) (qs g).2.2.2 (-1) (nI v) S = if (trj Z (Z 5 g) d (wetZ Z) h (puq (qs g) v) n).2.2.2 = (qs g).2.2.2 then fX12_toGive_h59 5000 f (nI g) (nI n) (qs g).2.2.2 (nI v) (nI (v + 1)) S4 else fX12_toGive_h59 5000 f (nI g) (nI n) (qs g).2.2.2 (-1) (nI (v + 1)) S4 := by
        rw [h59]
        unfold fX12_toGive_b67
        rw [if_pos rfl]
        unfold fX12_toGive_b73
        rw [if_neg hne]
        unfold fX12_toGive_b78
        dsimp only [lt]
        rw [chk_t hin, hgc, bnd_t r1]
        dsimp only
        rw [chk_t hin]
        simp only [e35]
        by_cases hq : (trj Z (Z 5 g) d (wetZ Z) h (puq (qs g) v) n).2.2.2 = (qs g).2.2.2
        · rw [if_pos hq, if_pos hq]
          unfold fX12_toGive_b101 fX12_toGive_b105
          rw [bnd_t u1, nI_1]
        · rw [if_neg hq, if_neg hq]
          unfold fX12_toGive_b105
          rw [bnd_t u1, nI_1]
      by_cases hz : (trj Z (Z 5 g) d (wetZ Z) h (puq (qs g) v) n).2.2.2 = -1
      · have hz2 : ¬ (trj Z (Z 5 g) d (wetZ Z) h (puq (qs g) v) n).2.2.2 = (qs g).2.2.2 := fun q => hne (q.symm.trans hz)
        refine Or.inr ⟨(-1, S4), ⟨u2, k4, k46, Or.inl ⟨rfl, fun i hi => ?_⟩⟩, ?_⟩
        · by_cases hi2 : i = v
          · rw [hi2]; exact decide_eq_false (fun q => q hz)
          · exact q2 i (by omega)
        · show fX12_toGive_h59 5000 (f + 1) (nI g) (nI n) (qs g).2.2.2 (-1) (nI v) S = _
          rw [hF, if_neg hz2]
      · have hz2 : (trj Z (Z 5 g) d (wetZ Z) h (puq (qs g) v) n).2.2.2 = (qs g).2.2.2 := by
          rcases trj_hired (Z := Z) (e := Z 5 g) (d := d) (wf := wetZ Z) (h := h) (q := puq (qs g) v) n with q | q
          · exact absurd q hz
          · exact q
        refine Or.inr ⟨(nI v, S4), ⟨u2, k4, k46, Or.inr ⟨nI_nem (by omega), Or.inl ⟨v, hv, decide_eq_true hz, q2, rfl⟩⟩⟩, ?_⟩
        show fX12_toGive_h59 5000 (f + 1) (nI g) (nI n) (qs g).2.2.2 (-1) (nI v) S = _
        rw [hF, if_pos hz2]
    · refine Or.inl ⟨(b, S), ?_, q2, i1, i2⟩
      show fX12_toGive_h59 5000 (f + 1) (nI g) (nI n) (qs g).2.2.2 b (nI v) S = _
      rw [h59]
      unfold fX12_toGive_b67
      rw [if_neg q1]
      rfl
theorem st_toGive : Lw_toGive JJ := by
  intro SX SM x1 x2 hJ
  obtain ⟨S1, Z, h, qs, hS1, c0, hJ1, Zk, h9, C, M, K, w41, x0, x5⟩ := pre hJ
  have z6 := Zk.2.1.2
  have hF : fX12_toGive 5000 x1 x2 SM = if iv (inb x1 (tn1 Z)) = 0 then fX12_toGive_b13 5000 S1 else if iv (wth x2 1 60) = 0 then fX12_toGive_b31 5000 S1 else fX12_toGive_b37 5000 x1 x2 S1 := by
    unfold fX12_toGive fX12_toGive_b0
    dsimp only [lt]
    rw [← hS1, bnd_t (m_isGuild M.1.2.1 (by omega))]
    unfold fX12_toGive_b19
    rw [bnd_t in_1_60]
  cases h1 : inb x1 (tn1 Z) with
  | false =>
    refine stFl 5000 5000 1 hJ one_ne (Or.inr (Or.inl rfl)) (ngF x5 (by omega) h1) ?_
    show fX12_toGive 5000 x1 x2 SM = _
    rw [hF, h1, ← hS1]
    rfl
  | true =>
  cases h2 : wth x2 1 60 with
  | false =>
    refine stFl 5000 5000 2 hJ two_ne (Or.inr (Or.inr rfl)) ((ngT x5 (by omega) h1).trans (niF h2)) ?_
    show fX12_toGive 5000 x1 x2 SM = _
    rw [hF, h1, h2, ← hS1]
    rfl
  | true =>
  obtain ⟨g, hg, rfl⟩ := inb_of h1 (by omega)
  obtain ⟨n, -, n2, rfl⟩ := wth_of (a := 1) (b := 60) (by decide) (by decide) h2
  have hgc : (nI g).toNatClampNeg = g := nI_clamp (by omega)
  have hin : inb (nI g) 6 = true := inb_t (by omega) (by decide)
  obtain ⟨S2, k1, k2, k3, k5, k7, k6, k4⟩ := q_go M w41 c0
  have hX : fX11_toGive 5000 (nI g) (nI n) SX = if (qs g).2.2.2 = -1 then fX11_toGive_b28 5000 SX else fX11_toGive_b30 5000 (nI g) (nI n) SX := by
    refine (ngT x5 (by omega) h1).trans ((niT h2).trans ?_)
    dsimp only
    rw [chk_t hin, hgc]
    simp only [show SX 25 g = (qs g).2.2.2 from (C.2.2.2 g hg).2.2.2]
  have hM : fX12_toGive 5000 (nI g) (nI n) SM = fX12_toGive_h59 5000 5000 (nI g) (nI n) (qs g).2.2.2 (-1) 0 S2 := by
    rw [hF, h1, h2]
    show fX12_toGive_b37 5000 (nI g) (nI n) S1 = _
    unfold fX12_toGive_b37
    rw [chk_t hin, bnd_t k1, hgc, (M.2.2.2.2 g hg).2.2.2]
  by_cases hne : (qs g).2.2.2 = -1
  · refine stSu 5000 5000 (-1) hJ rfl (Or.inl rfl) ⟨(0, -1, SX), ?_, rfl, rfl, xSame.rf⟩ ⟨(-1, S2), ?_, rfl, by rw [← hS1]; exact k5, k7⟩
    · show fX11_toGive 5000 (nI g) (nI n) SX = _
      rw [hX, if_pos hne]
      rfl
    · show fX12_toGive 5000 (nI g) (nI n) SM = _
      rw [hM]
      show fX12_toGive_b59 5000 _ (nI g) (nI n) _ (-1) 0 S2 = _
      unfold fX12_toGive_b59
      rw [if_neg (by decide)]
      unfold fX12_toGive_b67
      rw [if_pos rfl]
      unfold fX12_toGive_b73
      rw [if_pos hne]
      rfl
  · refine stSr 5000 5000 (ansL (kpB Z (Z 5 g) (SX 21 1) h n (qs g)) 1000) ansL.u hJ rfl (Or.inl rfl) ?_ ?_
    · obtain ⟨b1, e1, f1⟩ := x_minds (N := 5000) (k0 := xtw SX + 10) (m := tnp Z) (S := SX) ((C.1 10 3 (by omega) (by omega)).trans Zk.2.2.2.2.2.2.1.1) Zk.2.2.2.2.2.2.1.2.1 (by decide)
      obtain ⟨b2, e2, f2⟩ := x_minds (N := 5000) (k0 := xtw SX + 13) (m := tnc Z) (S := SX) ((C.1 13 3 (by omega) (by omega)).trans Zk.2.2.2.2.2.2.2.1) Zk.2.2.2.2.2.2.2.2.1 (by decide)
      obtain ⟨v, X2, a1, a2, a3⟩ := x_leastAll (n := n) Zk C K hg h9 n2 oSame.rf
      have all : fX11_toGive_b62 5000 (nI g) (nI n) SX = some (0, v, X2) := by
        unfold fX11_toGive_b62
        rw [bnd_t a1]
      have hX2 : fX11_toGive 5000 (nI g) (nI n) SX = if iv b1 = 0 then (if iv b2 = 0 then fX11_toGive_b69 5000 (nI g) (nI n) SX else fX11_toGive_b62 5000 (nI g) (nI n) SX) else fX11_toGive_b62 5000 (nI g) (nI n) SX := by
        rw [hX, if_neg hne]
        unfold fX11_toGive_b30
        dsimp only [lt]
        rw [bnd_t e1]
        unfold fX11_toGive_b46
        dsimp only [lt]
        rw [bnd_t e2]
      show Gv (fX11_toGive 5000 (nI g) (nI n) SX) _
      rw [hX2]
      cases b1 with
      | true =>
        rw [if_neg (show ¬ iv true = 0 by decide), all]
        exact ⟨_, rfl, rfl, a2, xWk.same a3⟩
      | false =>
        rw [if_pos (show iv false = 0 from rfl)]
        cases b2 with
        | true =>
          rw [if_neg (show ¬ iv true = 0 by decide), all]
          exact ⟨_, rfl, rfl, a2, xWk.same a3⟩
        | false =>
          rw [if_pos (show iv false = 0 from rfl)]
          have np : noPu Z := ⟨fun j hj => by rw [← C.1 11 j (by omega) (by omega)]; exact f1 rfl j hj, fun j hj => by rw [← C.1 14 j (by omega) (by omega)]; exact f2 rfl j hj⟩
          obtain ⟨v', X3, d1, d2, d3⟩ := x_leastHalf (n := n) Zk C K hg h9 n2 (kp_mono Zk np (K.2.2 g hg)) oSame.rf
          refine ⟨(0, v', X3), ?_, rfl, d2, xWk.same d3⟩
          unfold fX11_toGive_b69
          rw [bnd_t d1]
    · show Gv (fX12_toGive 5000 (nI g) (nI n) SM) _
      rw [hM, ← hS1]
      exact m_toGive_h Zk K hg h9 n2 hne M w41 k7 k5 k6
end

/-! part 69.ashare -/
section
/-! who can have which: a pure picture -/
noncomputable def mnF (st : Nat) (ok : Nat → Bool) (v : Nat → Nat) : Nat → Nat
  | 0 => st
  | k + 1 => if ok k = true then (if v k < mnF st ok v k then v k else mnF st ok v k) else mnF st ok v k
theorem mnF_le {st : Nat} {ok : Nat → Bool} {v : Nat → Nat} : ∀ n, mnF st ok v n ≤ st := by
  intro n
  induction n with
  | zero => exact Nat.le_refl _
  | succ n ih =>
    show (if ok n = true then (if v n < mnF st ok v n then v n else mnF st ok v n) else mnF st ok v n) ≤ st
    by_cases h : ok n = true
    · rw [if_pos h]
      by_cases h2 : v n < mnF st ok v n
      · rw [if_pos h2]; omega
      · rw [if_neg h2]; exact ih
    · rw [if_neg h]; exact ih
/-- the least is the start, or one of them -/
theorem mnF_att {st : Nat} {ok : Nat → Bool} {v : Nat → Nat} : ∀ n, mnF st ok v n = st ∨ ∃ k, k < n ∧ ok k = true ∧ v k = mnF st ok v n := by
  intro n
  induction n with
  | zero => exact Or.inl rfl
  | succ n ih =>
    have e : mnF st ok v (n + 1) = if ok n = true then (if v n < mnF st ok v n then v n else mnF st ok v n) else mnF st ok v n := rfl
    have old : mnF st ok v (n + 1) = mnF st ok v n → mnF st ok v (n + 1) = st ∨ ∃ k, k < n + 1 ∧ ok k = true ∧ v k = mnF st ok v (n + 1) := by
      intro q
      rw [q]
      rcases ih with h | ⟨k, h1, h2, h3⟩
      · exact Or.inl h
      · exact Or.inr ⟨k, by omega, h2, h3⟩
    by_cases h : ok n = true
    · rw [if_pos h] at e
      by_cases h2 : v n < mnF st ok v n
      · rw [if_pos h2] at e
        exact Or.inr ⟨n, by omega, h, e.symm⟩
      · rw [if_neg h2] at e
        exact old e
    · rw [if_neg h] at e
      exact old e
noncomputable def prN (Z : gS) (k : Nat) : Nat := (Z 3 k).toNatClampNeg
noncomputable def puN (qs : Nat → qT) (g : Nat) : Nat := (qs g).2.1.toNatClampNeg
noncomputable def mayN (Z : gS) (qs : Nat → qT) (g had k : Nat) : Bool := !had.testBit k && decide (10 * prN Z k ≤ puN qs g)
noncomputable def LN (Z : gS) (qs : Nat → qT) : Nat → Nat → Nat
  | 0, _ => 0
  | r + 1, had => mnF (1000 + LN Z qs r had) (mayN Z qs (tn1 Z - (r + 1)) had) (fun k => prN Z k + LN Z qs r (had ||| 2 ^ k)) (tn0 Z)
theorem LN_le {Z : gS} {qs : Nat → qT} : ∀ r had, LN Z qs r had ≤ 1000 * r := by
  intro r
  induction r with
  | zero => intro had; exact Nat.le_refl _
  | succ r ih =>
    intro had
    have h1 : LN Z qs (r + 1) had ≤ 1000 + LN Z qs r had := mnF_le _
    have := ih had
    omega
theorem pr_ok {Z : gS} {k : Nat} (Zk : tOK Z) (hk : k < tn0 Z) : Z 3 k = nI (prN Z k) ∧ prN Z k ≤ 20 := by
  obtain ⟨-, -, ⟨u, u1, u2⟩, -⟩ := Zk.2.2.2.2.1 k hk
  unfold prN
  rw [u2, nI_clamp (by omega)]
  exact ⟨rfl, u1⟩
theorem pu_ok {Z : gS} {e : Nat → Int32} {qs : Nat → qT} {g : Nat} (K : qsOK Z e qs) (hg : g < tn1 Z) : (qs g).2.1 = nI (puN qs g) ∧ puN qs g ≤ 999 := by
  obtain ⟨y, hy, ey⟩ := i32_999 (K.1 g hg).2.1
  unfold puN
  rw [ey, nI_clamp (by omega)]
  exact ⟨rfl, hy⟩
noncomputable def pcN (had : Nat) : Nat := (bcV (nI had)).toNatClampNeg
theorem pc_all : ∀ had, had < 256 → bcV (nI had) = nI (pcN had) ∧ pcN had ≤ 8 := by decide +kernel
theorem or_all : ∀ had, had < 256 → ∀ k, k < 8 → nI had ||| ((1 : Int32) <<< (nI k &&& 31)) = nI (had ||| 2 ^ k) ∧ bt (nI had) (nI k) = had.testBit k ∧ pcN (had ||| 2 ^ k) ≤ pcN had + 1 := by decide +kernel
theorem shl8 : ∀ g, g < 8 → nI g <<< ((8 : Int32) &&& 31) = nI (256 * g) := by decide +kernel
theorem or_lt {n had k : Nat} (h : had < 2 ^ n) (hk : k < n) : had ||| 2 ^ k < 2 ^ n := Nat.or_lt_two_pow h (Nat.pow_lt_pow_right (by decide) hk)
section
variable {N g k had : Nat} {Z SX S : gS} {d : Int32} {h : Nat} {qs : Nat → qT}
theorem x_canHave (Zk : tOK Z) (C : cSit 21 Z S h d qs) (K : qsOK Z (Z 5) qs) (hg : g < tn1 Z) (hk : k < tn0 Z) (hh : had < 256) : fX6_canHave N (xtw S) 21 (nI g) (nI k) (nI had) S = some (iv (mayN Z qs g had k), S) := by
  have z6 := Zk.2.1.2
  have z8 := Zk.1.2
  obtain ⟨p1, p2⟩ := pr_ok Zk hk
  obtain ⟨u1, u2⟩ := pu_ok K hg
  unfold fX6_canHave fX6_canHave_b0 mayN
  rw [bnd_t x_isOneOf, (or_all had hh k (by omega)).2.1]
  cases had.testBit k with
  | true => rfl
  | false =>
    show fX6_canHave_b9 N (xtw S) 21 (nI g) (nI k) S = _
    unfold fX6_canHave_b9
    rw [chk_t (inb_t (by omega) (by decide)), chk_t (inb_t (by omega) (by decide)), nI_clamp (by omega), nI_clamp (by omega), show S (21 + 2) g = nI (puN qs g) from (C.2.2.2 g hg).2.1.trans u1, C.1 3 k (by omega) (by omega), p1, show (10 : Int32) = nI 10 from rfl, pk_mul]
    by_cases hl : 10 * prN Z k ≤ puN qs g
    · rw [if_neg (nI_nlt hl (by omega)), decide_eq_true hl]; rfl
    · rw [if_pos (nI_lt (by omega) (by omega)), decide_eq_false hl]; rfl
theorem m_mayHave {e : Nat → Int32} (Zk : tOK Z) (M : mSit Z S h d e qs) (K : qsOK Z e qs) (hg : g < tn1 Z) (hk : k < tn0 Z) (hh : had < 256) : fX12_mayHave N (nI g) (nI had) (nI k) S = some (iv (mayN Z qs g had k), S) := by
  have z6 := Zk.2.1.2
  have z8 := Zk.1.2
  obtain ⟨p1, p2⟩ := pr_ok Zk hk
  obtain ⟨u1, u2⟩ := pu_ok K hg
  unfold fX12_mayHave fX12_mayHave_b0 mayN
  rw [bnd_t m_isOf, (or_all had hh k (by omega)).2.1]
  cases had.testBit k with
  | true => rfl
  | false =>
    show fX12_mayHave_b8 N (nI g) (nI k) S = _
    unfold fX12_mayHave_b8
    rw [chk_t (inb_t (by omega) (by decide)), chk_t (inb_t (by omega) (by decide)), nI_clamp (by omega), nI_clamp (by omega), (M.2.2.2.2 g hg).2.1, u1, (M.1.2.2.2.2.2.2.2.1 k hk).2.2.1, p1, show (10 : Int32) = nI 10 from rfl, pk_mul]
    by_cases hl : 10 * prN Z k ≤ puN qs g
    · rw [if_neg (nI_nlt hl (by omega)), decide_eq_true hl]; rfl
    · rw [if_pos (nI_lt (by omega) (by omega)), decide_eq_false hl]; rfl
/-- what the class's table holds from GUILD g0 on -/
def TB (Z : gS) (qs : Nat → qT) (g0 : Nat) (S : gS) : Prop := ∀ g, g0 ≤ g → g < tn1 Z → ∀ had, had < 2 ^ tn0 Z → pcN had ≤ g → S (53 + 1 + g) had = nI (1000 * (tn1 Z - g) - LN Z qs (tn1 Z - g) had)
theorem x_behind (Zk : tOK Z) (hx5 : S (xtw S) 5 = nI (tn1 Z)) (hg : g < tn1 Z) (hh : had < 2 ^ tn0 Z) (hp : pcN had ≤ g + 1) (T : TB Z qs (g + 1) S) : fX6_behind N (xtw S) (nI g) (nI had) S = some (nI (1000 * (tn1 Z - (g + 1)) - LN Z qs (tn1 Z - (g + 1)) had), S) := by
  have z6 := Zk.2.1.2
  have p256 := pow256 Zk.1.2
  unfold fX6_behind fX6_behind_b0
  rw [hx5, nI_1]
  by_cases hl : g + 1 < tn1 Z
  · rw [if_pos (nI_lt hl (by omega))]
    unfold fX6_behind_b14
    dsimp only [lt]
    rw [nI_1, chk_t (inb_t (by omega) (by decide)), chk_t (inb_t (by omega) (by decide)), nI_clamp (n := g + 1) (by omega), nI_clamp (n := had) (by omega), T (g + 1) (Nat.le_refl _) hl had hh hp]
    rfl
  · rw [if_neg (nI_nlt (by omega) (by omega)), show tn1 Z - (g + 1) = 0 by omega]
    rfl
theorem x_worthOf (Zk : tOK Z) (C : cSit 21 Z S h d qs) (hg : g < tn1 Z) (hk : k < tn0 Z) (hh : had < 2 ^ tn0 Z) (hp : pcN had ≤ g) (T : TB Z qs (g + 1) S) : fX6_worthOf N (xtw S) (nI g) (nI k) (nI had) S = some (nI (1000 * (tn1 Z - g) - (prN Z k + LN Z qs (tn1 Z - (g + 1)) (had ||| 2 ^ k))), S) := by
  have z6 := Zk.2.1.2
  have z8 := Zk.1.2
  have p256 := pow256 z8
  obtain ⟨p1, p2⟩ := pr_ok Zk hk
  obtain ⟨o1, o2, o3⟩ := or_all had (by omega) k (by omega)
  have hl := LN_le (Z := Z) (qs := qs) (tn1 Z - (g + 1)) (had ||| 2 ^ k)
  unfold fX6_worthOf fX6_worthOf_b0
  rw [chk_t (inb_t (by omega) (by decide)), o1, bnd_t (x_behind Zk ((C.1 0 5 (by omega) (by omega)).trans Zk.2.1.1) hg (or_lt hh hk) (by omega) T), nI_clamp (by omega), C.1 3 k (by omega) (by omega), p1, show (1000 : Int32) = nI 1000 from rfl, pk_sub (by omega), nI_add]
  have e : 1000 - prN Z k + (1000 * (tn1 Z - (g + 1)) - LN Z qs (tn1 Z - (g + 1)) (had ||| 2 ^ k)) = 1000 * (tn1 Z - g) - (prN Z k + LN Z qs (tn1 Z - (g + 1)) (had ||| 2 ^ k)) := by omega
  rw [e]
theorem LN_s (hg : g < tn1 Z) : LN Z qs (tn1 Z - g) had = mnF (1000 + LN Z qs (tn1 Z - (g + 1)) had) (mayN Z qs g had) (fun k => prN Z k + LN Z qs (tn1 Z - (g + 1)) (had ||| 2 ^ k)) (tn0 Z) := by
  have e : tn1 Z - g = (tn1 Z - (g + 1)) + 1 := by omega
  rw [e]
  show mnF _ (mayN Z qs (tn1 Z - (tn1 Z - (g + 1) + 1)) had) _ _ = _
  rw [show tn1 Z - (tn1 Z - (g + 1) + 1) = g by omega]
theorem x_bestOf (Zk : tOK Z) (C : cSit 21 Z S h d qs) (K : qsOK Z (Z 5) qs) (hg : g < tn1 Z) (hh : had < 2 ^ tn0 Z) (hp : pcN had ≤ g) (T : TB Z qs (g + 1) S) : fX6_bestOf 5000 (xtw S) 21 (nI g) (nI had) S = some (nI (1000 * (tn1 Z - g) - LN Z qs (tn1 Z - g) had), S) := by
  have z6 := Zk.2.1.2
  have z8 := Zk.1.2
  have p256 := pow256 z8
  have x0 : S (xtw S) 0 = nI (tn0 Z) := (C.1 0 0 (by omega) (by omega)).trans Zk.1.1
  obtain ⟨A, hA⟩ : ∃ z : Nat → Nat, z = mnF (1000 + LN Z qs (tn1 Z - (g + 1)) had) (mayN Z qs g had) (fun k => prN Z k + LN Z qs (tn1 Z - (g + 1)) (had ||| 2 ^ k)) := ⟨_, rfl⟩
  have hl0 := LN_le (Z := Z) (qs := qs) (tn1 Z - (g + 1)) had
  have hAle : ∀ k, A k ≤ 1000 + LN Z qs (tn1 Z - (g + 1)) had := fun k => by rw [hA]; exact mnF_le k
  have main : Gv (fX6_bestOf_h13 5000 5000 (xtw S) 21 (nI g) (nI had) (nI (1000 * (tn1 Z - g) - A 0)) 0 S) (fun r => r = (nI (1000 * (tn1 Z - g) - A (tn0 Z)), S)) := by
    refine loopG (A := Unit) (fun f k _ => fX6_bestOf_h13 5000 f (xtw S) 21 (nI g) (nI had) (nI (1000 * (tn1 Z - g) - A k)) (nI k) S) (fun _ _ => True) _ (tn0 Z) ?_ ?_ (tn0 Z) 0 () 5000 (by omega) trivial (by omega)
    · rintro f a -
      refine ⟨_, ?_, rfl⟩
      show fX6_bestOf_b13 5000 _ (xtw S) 21 _ _ _ (nI (tn0 Z)) S = _
      unfold fX6_bestOf_b13
      rw [x0, if_pos (nI_le (Nat.le_refl _) (by omega))]
      rfl
    · rintro f k a hk -
      refine Or.inr ⟨(), trivial, ?_⟩
      have eA : A (k + 1) = if mayN Z qs g had k = true then (if prN Z k + LN Z qs (tn1 Z - (g + 1)) (had ||| 2 ^ k) < A k then prN Z k + LN Z qs (tn1 Z - (g + 1)) (had ||| 2 ^ k) else A k) else A k := by
        rw [hA]
        rfl
      have hl := LN_le (Z := Z) (qs := qs) (tn1 Z - (g + 1)) (had ||| 2 ^ k)
      obtain ⟨p1, p2⟩ := pr_ok Zk hk
      have hAk := hAle k
      show fX6_bestOf_b13 5000 (fX6_bestOf_h13 5000 f) (xtw S) 21 (nI g) (nI had) (nI (1000 * (tn1 Z - g) - A k)) (nI k) S = fX6_bestOf_h13 5000 f (xtw S) 21 (nI g) (nI had) (nI (1000 * (tn1 Z - g) - A (k + 1))) (nI (k + 1)) S
      unfold fX6_bestOf_b13
      rw [x0, if_neg (nI_ge hk (by omega))]
      unfold fX6_bestOf_b22
      rw [bnd_t (x_canHave Zk C K hg hk (by omega)), eA]
      cases hm : mayN Z qs g had k with
      | false =>
        show fX6_bestOf_b52 5000 (fX6_bestOf_h13 5000 f) (xtw S) 21 (nI g) (nI had) (nI (1000 * (tn1 Z - g) - A k)) (nI k) S = fX6_bestOf_h13 5000 f (xtw S) 21 (nI g) (nI had) (nI (1000 * (tn1 Z - g) - A k)) (nI (k + 1)) S
        unfold fX6_bestOf_b52
        rw [nI_1]
      | true =>
        rw [if_pos rfl]
        show fX6_bestOf_b35 5000 (fX6_bestOf_h13 5000 f) (xtw S) 21 (nI g) (nI had) (nI (1000 * (tn1 Z - g) - A k)) (nI k) S = _
        unfold fX6_bestOf_b35
        rw [bnd_t (x_worthOf Zk C hg hk hh hp T)]
        unfold fX6_bestOf_b52
        rw [nI_1]
        dsimp only
        by_cases hv : prN Z k + LN Z qs (tn1 Z - (g + 1)) (had ||| 2 ^ k) < A k
        · rw [if_pos hv, if_pos (nI_lt (by omega) (by omega))]
        · rw [if_neg hv, if_neg (nI_nlt (by omega) (by omega))]
  obtain ⟨r, r1, rfl⟩ := main
  unfold fX6_bestOf fX6_bestOf_b0
  rw [bnd_t (x_behind Zk ((C.1 0 5 (by omega) (by omega)).trans Zk.2.1.1) hg hh (by omega) T), LN_s hg, ← hA]
  have e0 : 1000 * (tn1 Z - (g + 1)) - LN Z qs (tn1 Z - (g + 1)) had = 1000 * (tn1 Z - g) - A 0 := by
    rw [hA]
    show _ = 1000 * (tn1 Z - g) - (1000 + LN Z qs (tn1 Z - (g + 1)) had)
    omega
  dsimp only
  rw [e0]
  exact r1
end
noncomputable def xSh (i _j : Nat) : Bool := 52 ≤ i && i ≤ 61
theorem xSh_t {i j : Nat} (h : 52 ≤ i ∧ i ≤ 61) : xSh i j = true := by
  unfold xSh
  rw [decide_eq_true h.1, decide_eq_true h.2]
  rfl
theorem xSh.same {S S' : gS} (s : oSame xSh S S') : xSame S S' := by
  intro i j h
  refine s i j ?_
  cases hh : xSh i j with
  | false => rfl
  | true =>
    exfalso
    unfold xSh at hh
    rw [Bool.and_eq_true, decide_eq_true_iff, decide_eq_true_iff] at hh
    rcases (show i = 52 ∨ i = 53 ∨ i = 54 ∨ i = 55 ∨ i = 56 ∨ i = 57 ∨ i = 58 ∨ i = 59 ∨ i = 60 ∨ i = 61 by omega) with r | r | r | r | r | r | r | r | r | r <;> rw [r] at h <;> cases h
end

/-! part 70.bshare -/
section
noncomputable def dI (m : Nat) : Int32 := nI m + (-1)
theorem dI_0 : dI 0 = -1 := by decide
theorem dI_s {m : Nat} : dI (m + 1) = nI m := by
  unfold dI
  rw [← nI_1, Int32.add_assoc]
  exact Int32.add_zero _
theorem dI_sub {m : Nat} : nI m - 1 = dI m := Int32.sub_eq_add_neg _ _
noncomputable def fsK (ok : Nat → Bool) : Nat → Nat
  | 0 => 0
  | n + 1 => if fsK ok n < n then fsK ok n else if ok n = true then n else n + 1
theorem fsK_sp {ok : Nat → Bool} : ∀ n, (fsK ok n < n ∧ ok (fsK ok n) = true ∧ ∀ i, i < fsK ok n → ok i = false) ∨ (fsK ok n = n ∧ ∀ i, i < n → ok i = false) := by
  intro n
  induction n with
  | zero => exact Or.inr ⟨rfl, fun i h => absurd h (by omega)⟩
  | succ n ih =>
    have e : fsK ok (n + 1) = if fsK ok n < n then fsK ok n else if ok n = true then n else n + 1 := rfl
    rcases ih with ⟨a1, a2, a3⟩ | ⟨a1, a2⟩
    · rw [if_pos a1] at e
      rw [e]
      exact Or.inl ⟨by omega, a2, a3⟩
    · rw [if_neg (by omega)] at e
      cases h : ok n with
      | true =>
        rw [if_pos h] at e
        rw [e]
        exact Or.inl ⟨by omega, h, a2⟩
      | false =>
        rw [if_neg (by rw [h]; decide)] at e
        rw [e]
        refine Or.inr ⟨rfl, fun i hi => ?_⟩
        by_cases q : i = n
        · rw [q]; exact h
        · exact a2 i (by omega)
noncomputable def owV (ok : Nat → Bool) (n : Nat) : Int32 := if fsK ok n < n then nI (fsK ok n) else -1
theorem owV_an {ok : Nat → Bool} {n : Nat} {v : Int32} (h : ansL ok n v) : v = owV ok n := by
  refine ansL.u _ _ h ?_
  unfold owV
  rcases fsK_sp (ok := ok) n with ⟨a1, a2, a3⟩ | ⟨a1, a2⟩
  · rw [if_pos a1]
    exact Or.inl ⟨_, a1, a2, a3, rfl⟩
  · rw [if_neg (by omega)]
    exact Or.inr ⟨a2, rfl⟩
noncomputable def okO (Z : gS) (qs : Nat → qT) (g had k : Nat) : Bool := mayN Z qs g had k && decide (prN Z k + LN Z qs (tn1 Z - (g + 1)) (had ||| 2 ^ k) = LN Z qs (tn1 Z - g) had)
noncomputable def tkN (Z : gS) (qs : Nat → qT) : Nat → Nat
  | 0 => 0
  | g + 1 => if fsK (okO Z qs g (tkN Z qs g)) (tn0 Z) < tn0 Z then tkN Z qs g ||| 2 ^ fsK (okO Z qs g (tkN Z qs g)) (tn0 Z) else tkN Z qs g
noncomputable def owN (Z : gS) (qs : Nat → qT) (g : Nat) : Nat := fsK (okO Z qs g (tkN Z qs g)) (tn0 Z)
noncomputable def myN (Z : gS) (qs : Nat → qT) : Nat → Nat
  | 0 => 0
  | g + 1 => if owN Z qs g < tn0 Z then myN Z qs g + 1 else myN Z qs g
noncomputable def mcN (Z : gS) (qs : Nat → qT) : Nat → Nat
  | 0 => 0
  | g + 1 => if owN Z qs g < tn0 Z then mcN Z qs g + prN Z (owN Z qs g) else mcN Z qs g
theorem tk_ok {Z : gS} {qs : Nat → qT} (Zk : tOK Z) : ∀ g, g ≤ tn1 Z → tkN Z qs g < 2 ^ tn0 Z ∧ pcN (tkN Z qs g) ≤ g ∧ myN Z qs g ≤ g ∧ mcN Z qs g ≤ 20 * g ∧ LN Z qs (tn1 Z) 0 = 1000 * (g - myN Z qs g) + mcN Z qs g + LN Z qs (tn1 Z - g) (tkN Z qs g) := by
  intro g
  have z8 := Zk.1.2
  have p256 := pow256 z8
  induction g with
  | zero =>
    intro _
    refine ⟨Nat.pow_pos (by decide), by show pcN 0 ≤ 0; decide, Nat.le_refl _, Nat.le_refl _, ?_⟩
    show LN Z qs (tn1 Z) 0 = 1000 * (0 - 0) + 0 + LN Z qs (tn1 Z - 0) 0
    have e : LN Z qs (tn1 Z - 0) 0 = LN Z qs (tn1 Z) 0 := rfl
    omega
  | succ g ih =>
    intro hg
    obtain ⟨a1, a2, a3, a4, a5⟩ := ih (by omega)
    have e1 : tkN Z qs (g + 1) = if owN Z qs g < tn0 Z then tkN Z qs g ||| 2 ^ owN Z qs g else tkN Z qs g := rfl
    have e2 : myN Z qs (g + 1) = if owN Z qs g < tn0 Z then myN Z qs g + 1 else myN Z qs g := rfl
    have e3 : mcN Z qs (g + 1) = if owN Z qs g < tn0 Z then mcN Z qs g + prN Z (owN Z qs g) else mcN Z qs g := rfl
    rcases fsK_sp (ok := okO Z qs g (tkN Z qs g)) (tn0 Z) with ⟨b1, b2, b3⟩ | ⟨b1, b2⟩
    · have b1' : owN Z qs g < tn0 Z := b1
      have b2' : okO Z qs g (tkN Z qs g) (owN Z qs g) = true := b2
      rw [if_pos b1'] at e1 e2 e3
      rw [e1, e2, e3]
      obtain ⟨p1, p2⟩ := pr_ok Zk b1'
      obtain ⟨o1, o2, o3⟩ := or_all (tkN Z qs g) (by omega) (owN Z qs g) (by omega)
      unfold okO at b2'
      rw [Bool.and_eq_true, decide_eq_true_iff] at b2'
      refine ⟨or_lt a1 b1', by omega, by omega, by omega, ?_⟩
      rw [a5, ← b2'.2]
      omega
    · have b1' : ¬ owN Z qs g < tn0 Z := by
        show ¬ fsK _ _ < _
        omega
      rw [if_neg b1'] at e1 e2 e3
      rw [e1, e2, e3]
      refine ⟨a1, by omega, by omega, by omega, ?_⟩
      have e4 : LN Z qs (tn1 Z - g) (tkN Z qs g) = 1000 + LN Z qs (tn1 Z - (g + 1)) (tkN Z qs g) := by
        rw [LN_s (by omega)]
        rcases mnF_att (st := 1000 + LN Z qs (tn1 Z - (g + 1)) (tkN Z qs g)) (ok := mayN Z qs g (tkN Z qs g)) (v := fun k => prN Z k + LN Z qs (tn1 Z - (g + 1)) (tkN Z qs g ||| 2 ^ k)) (tn0 Z) with q | ⟨k, k1, k2, k3⟩
        · exact q
        · exfalso
          have := b2 k k1
          have k4 := k3.trans (LN_s (Z := Z) (qs := qs) (g := g) (had := tkN Z qs g) (by omega)).symm
          unfold okO at this
          rw [k2, decide_eq_true k4] at this
          cases this
      rw [a5, e4]
      omega
section
variable {N g : Nat} {Z S0 S : gS} {d : Int32} {h : Nat} {qs : Nat → qT}
theorem x_share14 {Q : Int32 × gS → Prop} (Zk : tOK Z) (K : qsOK Z (Z 5) qs) (hg : g < tn1 Z) (r7 : Nat → Nat → Int32 → gS → Option (Int32 × gS)) (C : cSit 21 Z S0 h d qs) (T : TB Z qs (g + 1) S0) (hk : ∀ S', oSame xSh S0 S' → TB Z qs g S' → Gv (r7 (xtw S0) 21 (dI g) S') Q) : Gv (fX6_share_h14 5000 r7 5000 (xtw S0) 21 (nI g) 0 S0) Q := by
  have z6 := Zk.2.1.2
  have z8 := Zk.1.2
  have p256 := pow256 z8
  refine loopG (A := gS) (fun f k S => fX6_share_h14 5000 r7 f (xtw S0) 21 (nI g) (nI k) S) (fun k S => oSame xSh S0 S ∧ TB Z qs (g + 1) S ∧ ∀ had, had < k → pcN had ≤ g → S (53 + 1 + g) had = nI (1000 * (tn1 Z - g) - LN Z qs (tn1 Z - g) had)) Q (2 ^ tn0 Z) ?_ ?_ (2 ^ tn0 Z) 0 S0 5000 (by omega) ⟨oSame.rf, T, fun _ q => absurd q (by omega)⟩ (by omega)
  · rintro f S ⟨s, T1, T2⟩
    have C' := C.sm (xSh.same s)
    have ht : xtw S = xtw S0 := by unfold xtw; rw [xSh.same s 0 7 rfl]
    have x0 : S (xtw S0) 0 = nI (tn0 Z) := by rw [← ht]; exact (C'.1 0 0 (by omega) (by omega)).trans Zk.1.1
    show Gv (fX6_share_b14 5000 r7 _ (xtw S0) 21 (nI g) (nI (2 ^ tn0 Z)) S) Q
    unfold fX6_share_b14
    rw [x0, shl_pow _ (by omega), if_pos (nI_le (Nat.le_refl _) (by omega))]
    refine hk S s (fun g' h1 h2 had h3 h4 => ?_)
    by_cases q : g' = g
    · subst q
      exact T2 had h3 h4
    · exact T1 g' (by omega) h2 had h3 h4
  · rintro f k S hk1 ⟨s, T1, T2⟩
    refine Or.inr ?_
    have C' := C.sm (xSh.same s)
    have ht : xtw S = xtw S0 := by unfold xtw; rw [xSh.same s 0 7 rfl]
    have x0 : S (xtw S0) 0 = nI (tn0 Z) := by rw [← ht]; exact (C'.1 0 0 (by omega) (by omega)).trans Zk.1.1
    obtain ⟨q1, q2⟩ := pc_all k (by omega)
    have hF : fX6_share_h14 5000 r7 (f + 1) (xtw S0) 21 (nI g) (nI k) S = if nI g < nI (pcN k) then fX6_share_b52 5000 r7 (fX6_share_h14 5000 r7 f) (xtw S0) 21 (nI g) (nI k) S else fX6_share_b34 5000 r7 (fX6_share_h14 5000 r7 f) (xtw S0) 21 (nI g) (nI k) S := by
      show fX6_share_b14 5000 r7 (fX6_share_h14 5000 r7 f) (xtw S0) 21 (nI g) (nI k) S = _
      unfold fX6_share_b14
      rw [x0, shl_pow _ (by omega), if_neg (nI_ge hk1 (by omega))]
      unfold fX6_share_b25
      rw [bnd_t x_bitCount, q1]
    by_cases hp : g < pcN k
    · refine ⟨S, ⟨s, T1, fun had h1 h2 => T2 had ?_ h2⟩, ?_⟩
      · by_cases q : had = k
        · rw [q] at h2; omega
        · omega
      · show fX6_share_h14 5000 r7 (f + 1) (xtw S0) 21 (nI g) (nI k) S = _
        rw [hF, if_pos (nI_lt hp (by omega))]
        unfold fX6_share_b52
        rw [nI_1]
    · have hb := x_bestOf Zk C' K hg hk1 (by omega) T1
      rw [ht] at hb
      refine ⟨sU S (53 + 1 + g) k (nI (1000 * (tn1 Z - g) - LN Z qs (tn1 Z - g) k)), ⟨s.up (xSh_t (by omega)), fun g' h1 h2 had h3 h4 => ?_, fun had h1 h2 => ?_⟩, ?_⟩
      · rw [sU_ne (by omega)]
        exact T1 g' h1 h2 had h3 h4
      · rw [sU_ap]
        by_cases q : had = k
        · rw [if_pos ⟨rfl, q⟩, q]
        · rw [if_neg (fun z => q z.2)]
          exact T2 had (by omega) h2
      · show fX6_share_h14 5000 r7 (f + 1) (xtw S0) 21 (nI g) (nI k) S = _
        rw [hF, if_neg (nI_nlt (by omega) (by omega))]
        unfold fX6_share_b34
        dsimp only [lt]
        rw [chk_t (inb_t (by omega) (by decide)), bnd_t hb, chk_t (inb_t (by omega) (by decide)), nI_clamp (n := g) (by omega), nI_clamp (n := k) (by omega)]
        unfold fX6_share_b52
        rw [nI_1 k]
theorem x_choice (Zk : tOK Z) (C : cSit 21 Z S h d qs) (K : qsOK Z (Z 5) qs) (hg : g < tn1 Z) {had : Nat} (hh : had < 2 ^ tn0 Z) (hp : pcN had ≤ g) (T : TB Z qs 0 S) : fX6_choice 5000 (xtw S) 21 (nI g) (nI had) S = some (owV (okO Z qs g had) (tn0 Z), S) := by
  have z6 := Zk.2.1.2
  have z8 := Zk.1.2
  have p256 := pow256 z8
  have x0 : S (xtw S) 0 = nI (tn0 Z) := (C.1 0 0 (by omega) (by omega)).trans Zk.1.1
  have T1 : TB Z qs (g + 1) S := fun g' h1 => T g' (by omega)
  have main : Gv (fX6_choice_h3 5000 5000 (xtw S) 21 (nI g) (nI had) 0 S) (fun r => ansL (okO Z qs g had) (tn0 Z) r.1 ∧ r.2 = S) := by
    refine loopG (A := Unit) (fun f k _ => fX6_choice_h3 5000 f (xtw S) 21 (nI g) (nI had) (nI k) S) (fun k _ => ∀ i, i < k → okO Z qs g had i = false) _ (tn0 Z) ?_ ?_ (tn0 Z) 0 () 5000 (by omega) (fun _ q => absurd q (by omega)) (by omega)
    · rintro f a i1
      refine ⟨(-1, S), ?_, Or.inr ⟨i1, rfl⟩, rfl⟩
      show fX6_choice_b3 5000 _ (xtw S) 21 _ _ (nI (tn0 Z)) S = _
      unfold fX6_choice_b3
      rw [x0, if_pos (nI_le (Nat.le_refl _) (by omega))]
      rfl
    · rintro f k a hk i1
      have hl := LN_le (Z := Z) (qs := qs) (tn1 Z - (g + 1)) (had ||| 2 ^ k)
      have hl2 := LN_le (Z := Z) (qs := qs) (tn1 Z - g) had
      obtain ⟨p1, p2⟩ := pr_ok Zk hk
      have hF : fX6_choice_h3 5000 (f + 1) (xtw S) 21 (nI g) (nI had) (nI k) S = if iv (mayN Z qs g had k) = 0 then fX6_choice_b50 5000 (fX6_choice_h3 5000 f) (xtw S) 21 (nI g) (nI had) (nI k) S else fX6_choice_b25 5000 (fX6_choice_h3 5000 f) (xtw S) 21 (nI g) (nI had) (nI k) S := by
        show fX6_choice_b3 5000 (fX6_choice_h3 5000 f) (xtw S) 21 (nI g) (nI had) (nI k) S = _
        unfold fX6_choice_b3
        rw [x0, if_neg (nI_ge hk (by omega))]
        unfold fX6_choice_b12
        rw [bnd_t (x_canHave Zk C K hg hk (by omega))]
      have nx : okO Z qs g had k = false → ∀ i, i < k + 1 → okO Z qs g had i = false := by
        intro q i hi
        by_cases e : i = k
        · rw [e]; exact q
        · exact i1 i (by omega)
      cases hm : mayN Z qs g had k with
      | false =>
        refine Or.inr ⟨(), nx (by unfold okO; rw [hm]; rfl), ?_⟩
        show fX6_choice_h3 5000 (f + 1) (xtw S) 21 (nI g) (nI had) (nI k) S = _
        rw [hF, hm]
        show fX6_choice_b50 5000 (fX6_choice_h3 5000 f) (xtw S) 21 (nI g) (nI had) (nI k) S = _
        unfold fX6_choice_b50
        rw [nI_1]
      | true =>
        have hF2 : fX6_choice_h3 5000 (f + 1) (xtw S) 21 (nI g) (nI had) (nI k) S = if nI (1000 * (tn1 Z - g) - (prN Z k + LN Z qs (tn1 Z - (g + 1)) (had ||| 2 ^ k))) = nI (1000 * (tn1 Z - g) - LN Z qs (tn1 Z - g) had) then fX6_choice_b47 5000 (nI k) S else fX6_choice_b50 5000 (fX6_choice_h3 5000 f) (xtw S) 21 (nI g) (nI had) (nI k) S := by
          rw [hF, hm]
          show fX6_choice_b25 5000 (fX6_choice_h3 5000 f) (xtw S) 21 (nI g) (nI had) (nI k) S = _
          unfold fX6_choice_b25
          dsimp only [lt]
          rw [bnd_t (x_worthOf Zk C hg hk hh hp T1), chk_t (inb_t (by omega) (by decide)), chk_t (inb_t (by omega) (by decide)), nI_clamp (n := g) (by omega), nI_clamp (n := had) (by omega)]
          simp only [T g (Nat.zero_le _) hg had hh hp]
        by_cases hv : prN Z k + LN Z qs (tn1 Z - (g + 1)) (had ||| 2 ^ k) = LN Z qs (tn1 Z - g) had
        · refine Or.inl ⟨(nI k, S), ?_, Or.inl ⟨k, hk, by unfold okO; rw [hm, decide_eq_true hv]; rfl, i1, rfl⟩, rfl⟩
          show fX6_choice_h3 5000 (f + 1) (xtw S) 21 (nI g) (nI had) (nI k) S = _
          rw [hF2, hv, if_pos rfl]
          rfl
        · refine Or.inr ⟨(), nx (by unfold okO; rw [hm, decide_eq_false hv]; rfl), ?_⟩
          show fX6_choice_h3 5000 (f + 1) (xtw S) 21 (nI g) (nI had) (nI k) S = _
          rw [hF2, if_neg (fun q => ?_)]
          · unfold fX6_choice_b50
            rw [nI_1]
          · have := (nI_eq (by omega) (by omega)).mp q
            omega
  obtain ⟨⟨v, S'⟩, r1, r2, r3⟩ := main
  dsimp only at r2 r3
  subst r3
  unfold fX6_choice fX6_choice_b0
  rw [r1, owV_an r2]
end
end

/-! part 71.cshare -/
section
section
variable {N g : Nat} {Z S0 S : gS} {d : Int32} {h : Nat} {qs : Nat → qT}
/-- what the class's sharing leaves -/
def shR (Z : gS) (qs : Nat → qT) (S0 : gS) (r : Int32 × gS) : Prop := oSame xSh S0 r.2 ∧ r.2 52 2 = nI (myN Z qs (tn1 Z)) ∧ r.2 52 3 = nI (mcN Z qs (tn1 Z)) ∧ ∀ g, g < tn1 Z → r.2 61 g = owV (okO Z qs g (tkN Z qs g)) (tn0 Z)
theorem x_share79 {S1 : gS} (Zk : tOK Z) (K : qsOK Z (Z 5) qs) (C : cSit 21 Z S0 h d qs) (s1 : oSame xSh S0 S1) (T : TB Z qs 0 S1) (m0 : S1 52 2 = 0) (c0 : S1 52 3 = 0) : Gv (fX6_share_h79 5000 5000 (xtw S0) 21 0 0 S1) (shR Z qs S0) := by
  have z6 := Zk.2.1.2
  have z8 := Zk.1.2
  have p256 := pow256 z8
  refine loopG (A := gS) (fun f g S => fX6_share_h79 5000 f (xtw S0) 21 (nI (tkN Z qs g)) (nI g) S) (fun g S => oSame xSh S0 S ∧ TB Z qs 0 S ∧ S 52 2 = nI (myN Z qs g) ∧ S 52 3 = nI (mcN Z qs g) ∧ ∀ g', g' < g → S 61 g' = owV (okO Z qs g' (tkN Z qs g')) (tn0 Z)) _ (tn1 Z) ?_ ?_ (tn1 Z) 0 S1 5000 (by omega) ⟨s1, T, m0, c0, fun _ q => absurd q (by omega)⟩ (by omega)
  · rintro f S ⟨s, T1, i1, i2, i3⟩
    have C' := C.sm (xSh.same s)
    have ht : xtw S = xtw S0 := by unfold xtw; rw [xSh.same s 0 7 rfl]
    have x5 : S (xtw S0) 5 = nI (tn1 Z) := by rw [← ht]; exact (C'.1 0 5 (by omega) (by omega)).trans Zk.2.1.1
    refine ⟨(0, S), ?_, s, i1, i2, i3⟩
    show fX6_share_b79 5000 _ (xtw S0) 21 _ (nI (tn1 Z)) S = _
    unfold fX6_share_b79
    rw [x5, if_pos (nI_le (Nat.le_refl _) (by omega))]
    rfl
  · rintro f g S hg ⟨s, T1, i1, i2, i3⟩
    refine Or.inr ?_
    have C' := C.sm (xSh.same s)
    have ht : xtw S = xtw S0 := by unfold xtw; rw [xSh.same s 0 7 rfl]
    have x5 : S (xtw S0) 5 = nI (tn1 Z) := by rw [← ht]; exact (C'.1 0 5 (by omega) (by omega)).trans Zk.2.1.1
    have x0 : S (xtw S0) 0 = nI (tn0 Z) := by rw [← ht]; exact (C'.1 0 0 (by omega) (by omega)).trans Zk.1.1
    obtain ⟨a1, a2, a3, a4, a5⟩ := tk_ok (qs := qs) Zk g (by omega)
    have hc := x_choice Zk C' K hg a1 a2 T1
    rw [ht] at hc
    have hT2 := xtw_cases (S := S0)
    obtain ⟨v, hv⟩ : ∃ v, v = owV (okO Z qs g (tkN Z qs g)) (tn0 Z) := ⟨_, rfl⟩
    have x0' : sU S 61 g v (xtw S0) 0 = nI (tn0 Z) := by
      rw [sU_ne (by omega)]
      exact x0
    have hF : fX6_share_h79 5000 (f + 1) (xtw S0) 21 (nI (tkN Z qs g)) (nI g) S = if iv (inb v (tn0 Z)) = 0 then fX6_share_b150 5000 (fX6_share_h79 5000 f) (xtw S0) 21 (nI (tkN Z qs g)) (nI g) (sU S 61 g v) else fX6_share_b117 5000 (fX6_share_h79 5000 f) (xtw S0) 21 (nI (tkN Z qs g)) (nI g) v (sU S 61 g v) := by
      show fX6_share_b79 5000 (fX6_share_h79 5000 f) (xtw S0) 21 (nI (tkN Z qs g)) (nI g) S = _
      unfold fX6_share_b79
      rw [x5, if_neg (nI_ge hg (by omega))]
      unfold fX6_share_b88
      dsimp only [lt]
      rw [bnd_t hc, chk_t (inb_t (by omega) (by decide)), nI_clamp (n := g) (by omega), ← hv]
      rw [bnd_t (x_isGrotto x0' (by omega))]
    have e1 : tkN Z qs (g + 1) = if owN Z qs g < tn0 Z then tkN Z qs g ||| 2 ^ owN Z qs g else tkN Z qs g := rfl
    have e2 : myN Z qs (g + 1) = if owN Z qs g < tn0 Z then myN Z qs g + 1 else myN Z qs g := rfl
    have e3 : mcN Z qs (g + 1) = if owN Z qs g < tn0 Z then mcN Z qs g + prN Z (owN Z qs g) else mcN Z qs g := rfl
    have ev : v = if owN Z qs g < tn0 Z then nI (owN Z qs g) else -1 := hv
    have i3' : ∀ g', g' < g + 1 → sU S 61 g v 61 g' = owV (okO Z qs g' (tkN Z qs g')) (tn0 Z) := by
      intro g' q
      rw [sU_ap]
      by_cases e : g' = g
      · rw [if_pos ⟨rfl, e⟩, e]
        exact hv
      · rw [if_neg (fun z => e z.2)]
        exact i3 g' (by omega)
    by_cases ho : owN Z qs g < tn0 Z
    · rw [if_pos ho] at e1 e2 e3 ev
      obtain ⟨o1, o2, o3⟩ := or_all (tkN Z qs g) (by omega) (owN Z qs g) (by omega)
      obtain ⟨p1, p2⟩ := pr_ok Zk ho
      refine ⟨sU (sU (sU S 61 g v) 52 2 (nI (myN Z qs (g + 1)))) 52 3 (nI (mcN Z qs (g + 1))), ⟨((s.up (xSh_t (by omega))).up (xSh_t (by omega))).up (xSh_t (by omega)), ?_, ?_, ?_, ?_⟩, ?_⟩
      · intro g' h1 h2 had h3 h4
        rw [sU_ne (by omega), sU_ne (by omega), sU_ne (by omega)]
        exact T1 g' h1 h2 had h3 h4
      · rw [sU_ap, if_neg (by omega), sU_ap, if_pos ⟨rfl, rfl⟩]
      · rw [sU_ap, if_pos ⟨rfl, rfl⟩]
      · intro g' q
        rw [sU_ne (by omega), sU_ne (by omega)]
        exact i3' g' q
      · show fX6_share_h79 5000 (f + 1) (xtw S0) 21 (nI (tkN Z qs g)) (nI g) S = _
        rw [hF, ev, inb_t ho (by omega), e1, ← o1]
        show fX6_share_b117 5000 (fX6_share_h79 5000 f) (xtw S0) 21 (nI (tkN Z qs g)) (nI g) (nI (owN Z qs g)) (sU S 61 g (nI (owN Z qs g))) = _
        unfold fX6_share_b117
        dsimp only [lt]
        rw [chk_t (inb_t (by omega) (by decide)), nI_clamp (n := owN Z qs g) (by omega)]
        have q3 : sU (sU S 61 g (nI (owN Z qs g))) 52 2 (sU S 61 g (nI (owN Z qs g)) 52 2 + 1) (xtw S0 + 3) (owN Z qs g) = nI (prN Z (owN Z qs g)) := by
          rw [sU_ne (by omega), sU_ne (by omega), ← ht]
          exact (C'.1 3 (owN Z qs g) (by omega) (by omega)).trans p1
        have q2 : sU S 61 g (nI (owN Z qs g)) 52 2 = nI (myN Z qs g) := i1
        have q4 : sU (sU S 61 g (nI (owN Z qs g))) 52 2 (nI (myN Z qs g + 1)) 52 3 = nI (mcN Z qs g) := by
          rw [sU_ap, if_neg (by omega)]
          exact i2
        rw [q3, q2, nI_1 (myN Z qs g), q4, nI_add, e2, e3]
        unfold fX6_share_b150
        rw [nI_1 g]
    · rw [if_neg ho] at e1 e2 e3 ev
      refine ⟨sU S 61 g v, ⟨s.up (xSh_t (by omega)), ?_, ?_, ?_, i3'⟩, ?_⟩
      · intro g' h1 h2 had h3 h4
        rw [sU_ne (by omega)]
        exact T1 g' h1 h2 had h3 h4
      · rw [e2]; exact i1
      · rw [e3]; exact i2
      · show fX6_share_h79 5000 (f + 1) (xtw S0) 21 (nI (tkN Z qs g)) (nI g) S = _
        rw [hF, e1, inb_f1 (show v < 0 by rw [ev]; decide)]
        show fX6_share_b150 5000 (fX6_share_h79 5000 f) (xtw S0) 21 (nI (tkN Z qs g)) (nI g) (sU S 61 g v) = _
        unfold fX6_share_b150
        rw [nI_1 g]
theorem x_share (Zk : tOK Z) (K : qsOK Z (Z 5) qs) (C : cSit 21 Z S0 h d qs) : Gv (fX6_share 5000 (xtw S0) 21 S0) (shR Z qs S0) := by
  have z6 := Zk.2.1.2
  have x5 : S0 (xtw S0) 5 = nI (tn1 Z) := (C.1 0 5 (by omega) (by omega)).trans Zk.2.1.1
  unfold fX6_share fX6_share_b0
  rw [x5, dI_sub]
  have main : ∀ (m : Nat) (S : gS) (f : Nat), m ≤ tn1 Z → m < f → oSame xSh S0 S → TB Z qs m S → Gv (fX6_share_h7 5000 f (xtw S0) 21 (dI m) S) (shR Z qs S0) := by
    intro m
    induction m with
    | zero =>
      intro S f hm hf s T
      obtain ⟨f, rfl⟩ : ∃ f', f = f' + 1 := ⟨f - 1, by omega⟩
      show Gv (fX6_share_b7 5000 _ (xtw S0) 21 (dI 0) S) _
      unfold fX6_share_b7
      rw [dI_0, if_pos (by decide)]
      unfold fX6_share_b64
      dsimp only [lt]
      refine x_share79 Zk K C ((s.up (xSh_t (by omega))).up (xSh_t (by omega))) (fun g' h1 h2 had h3 h4 => ?_) ?_ ?_
      · rw [sU_ne (by omega), sU_ne (by omega)]
        exact T g' h1 h2 had h3 h4
      · rw [sU_ap, if_neg (by omega), sU_ap, if_pos ⟨rfl, rfl⟩]
      · rw [sU_ap, if_pos ⟨rfl, rfl⟩]
    | succ m ih =>
      intro S f hm hf s T
      obtain ⟨f, rfl⟩ : ∃ f', f = f' + 1 := ⟨f - 1, by omega⟩
      have C' := C.sm (xSh.same s)
      have ht : xtw S = xtw S0 := by unfold xtw; rw [xSh.same s 0 7 rfl]
      show Gv (fX6_share_b7 5000 (fX6_share_h7 5000 f) (xtw S0) 21 (dI (m + 1)) S) _
      unfold fX6_share_b7
      rw [dI_s, if_neg (nI_pos (by omega))]
      show Gv (fX6_share_h14 5000 (fX6_share_h7 5000 f) 5000 (xtw S0) 21 (nI m) 0 S) _
      rw [← ht]
      refine x_share14 Zk K (by omega) _ C' T (fun S' h1 h2 => ?_)
      rw [ht]
      exact ih S' f (by omega) (by omega) (s.tr h1) h2
  exact main (tn1 Z) S0 5000 (Nat.le_refl _) (by omega) oSame.rf (fun g h1 h2 => absurd h2 (by omega))
end
end

/-! part 72.mshare -/
section
noncomputable def m47 (i _j : Nat) : Bool := i == 47
theorem m47.same {S S' : gS} (s : oSame m47 S S') : mSame S S' := by
  intro i j h
  refine s i j ?_
  unfold m47
  refine beq_false_of_ne (fun q => ?_)
  rw [q] at h
  cases h
theorem div_all : ∀ a, a < 7 → ∀ b, b < 121 → nI (1000 * a + b) / 1000 = nI a ∧ nI (1000 * a + b) - nI a * 1000 = nI b := by decide +kernel
section
variable {N g had k : Nat} {Z S0 S : gS} {d : Int32} {h : Nat} {e : Nat → Int32} {qs : Nat → qT}
def RT (Z : gS) (qs : Nat → qT) (g0 : Nat) (S : gS) : Prop := ∀ g, g0 ≤ g → g ≤ tn1 Z → ∀ had, had < 2 ^ tn0 Z → S 47 (256 * g + had) = nI (LN Z qs (tn1 Z - g) had)
theorem m_with (Zk : tOK Z) (M : mSit Z S h d e qs) (hg : g < tn1 Z) (hk : k < tn0 Z) (hh : had < 2 ^ tn0 Z) (T : RT Z qs (g + 1) S) : fX12_with N (nI g) (nI had) (nI k) S = some (nI (prN Z k + LN Z qs (tn1 Z - (g + 1)) (had ||| 2 ^ k)), S) := by
  have z6 := Zk.2.1.2
  have z8 := Zk.1.2
  have p256 := pow256 z8
  obtain ⟨p1, p2⟩ := pr_ok Zk hk
  obtain ⟨o1, o2, o3⟩ := or_all had (by omega) k (by omega)
  have hl := or_lt hh hk
  unfold fX12_with fX12_with_b0
  rw [nI_1 g, shl8 (g + 1) (by omega), o1, nI_add, chk_t (inb_t (by omega) (by decide)), chk_t (inb_t (by omega) (by decide)), nI_clamp (n := k) (by omega), nI_clamp (by omega), (M.1.2.2.2.2.2.2.2.1 k hk).2.2.1, p1, T (g + 1) (Nat.le_refl _) (by omega) _ hl, nI_add]
theorem m_tell81 {r48 : Int32 → Int32 → gS → Option (Int32 × gS)} {r54 : Int32 → Int32 → Int32 → gS → Option (Int32 × gS)} {x1 : Int32} (Zk : tOK Z) (M : mSit Z S h d e qs) (K : qsOK Z e qs) (hg : g < tn1 Z) (hh : had < 2 ^ tn0 Z) (T : RT Z qs (g + 1) S) : fX12_tellLeast_b59 5000 r48 r54 x1 (nI g) (nI had) S = r54 x1 (nI g) (nI (had + 1)) (sU S 47 (256 * g + had) (nI (LN Z qs (tn1 Z - g) had))) := by
  have z6 := Zk.2.1.2
  have z8 := Zk.1.2
  have p256 := pow256 z8
  have m0 : S 5 0 = nI (tn0 Z) := M.1.1
  obtain ⟨A, hA⟩ : ∃ z : Nat → Nat, z = mnF (1000 + LN Z qs (tn1 Z - (g + 1)) had) (mayN Z qs g had) (fun k => prN Z k + LN Z qs (tn1 Z - (g + 1)) (had ||| 2 ^ k)) := ⟨_, rfl⟩
  have hl0 := LN_le (Z := Z) (qs := qs) (tn1 Z - (g + 1)) had
  have hAle : ∀ k, A k ≤ 1000 + LN Z qs (tn1 Z - (g + 1)) had := fun k => by rw [hA]; exact mnF_le k
  have main : ∀ (m k f : Nat), k + m = tn0 Z → m < f → fX12_tellLeast_h81 5000 r48 r54 f x1 (nI g) (nI had) (nI (A k)) (nI k) S = fX12_tellLeast_b124 5000 r48 r54 x1 (nI g) (nI had) (nI (A (tn0 Z))) S := by
    intro m
    induction m with
    | zero =>
      intro k f hk hf
      obtain ⟨f, rfl⟩ : ∃ f', f = f' + 1 := ⟨f - 1, by omega⟩
      obtain rfl : k = tn0 Z := by omega
      show fX12_tellLeast_b81 5000 r48 r54 _ x1 (nI g) (nI had) _ (nI (tn0 Z)) S = _
      unfold fX12_tellLeast_b81
      rw [m0, if_pos (nI_le (Nat.le_refl _) (by omega))]
    | succ m ih =>
      intro k f hk hf
      obtain ⟨f, rfl⟩ : ∃ f', f = f' + 1 := ⟨f - 1, by omega⟩
      have eA : A (k + 1) = if mayN Z qs g had k = true then (if prN Z k + LN Z qs (tn1 Z - (g + 1)) (had ||| 2 ^ k) < A k then prN Z k + LN Z qs (tn1 Z - (g + 1)) (had ||| 2 ^ k) else A k) else A k := by
        rw [hA]
        rfl
      rw [← ih (k + 1) f (by omega) (by omega), eA]
      have hl := LN_le (Z := Z) (qs := qs) (tn1 Z - (g + 1)) (had ||| 2 ^ k)
      obtain ⟨p1, p2⟩ := pr_ok Zk (k := k) (by omega)
      have hAk := hAle k
      show fX12_tellLeast_b81 5000 r48 r54 (fX12_tellLeast_h81 5000 r48 r54 f) x1 (nI g) (nI had) (nI (A k)) (nI k) S = _
      unfold fX12_tellLeast_b81
      rw [m0, if_neg (nI_ge (by omega) (by omega))]
      unfold fX12_tellLeast_b92
      rw [bnd_t (m_mayHave Zk M K hg (by omega) (by omega))]
      cases hm : mayN Z qs g had k with
      | false =>
        show fX12_tellLeast_b118 5000 r48 r54 (fX12_tellLeast_h81 5000 r48 r54 f) x1 (nI g) (nI had) (nI (A k)) (nI k) S = fX12_tellLeast_h81 5000 r48 r54 f x1 (nI g) (nI had) (nI (A k)) (nI (k + 1)) S
        unfold fX12_tellLeast_b118
        rw [nI_1 k]
      | true =>
        rw [if_pos rfl]
        show fX12_tellLeast_b103 5000 r48 r54 (fX12_tellLeast_h81 5000 r48 r54 f) x1 (nI g) (nI had) (nI (A k)) (nI k) S = _
        unfold fX12_tellLeast_b103
        rw [bnd_t (m_with Zk M hg (by omega) hh T)]
        unfold fX12_tellLeast_b118
        rw [nI_1 k]
        dsimp only
        by_cases hv : prN Z k + LN Z qs (tn1 Z - (g + 1)) (had ||| 2 ^ k) < A k
        · rw [if_pos hv, if_pos (nI_lt (by omega) (by omega))]
        · rw [if_neg hv, if_neg (nI_nlt (by omega) (by omega))]
  have e0 : 1000 + LN Z qs (tn1 Z - (g + 1)) had = A 0 := by rw [hA]; rfl
  unfold fX12_tellLeast_b59
  rw [nI_1 g, shl8 (g + 1) (by omega), nI_add, chk_t (inb_t (by omega) (by decide)), nI_clamp (by omega), T (g + 1) (Nat.le_refl _) (by omega) _ hh, show (1000 : Int32) = nI 1000 from rfl, nI_add, e0]
  refine (main (tn0 Z) 0 5000 (by omega) (by omega)).trans ?_
  unfold fX12_tellLeast_b124
  dsimp only [lt]
  rw [shl8 g (by omega), nI_add, chk_t (inb_t (by omega) (by decide)), nI_clamp (by omega), nI_1 had, LN_s hg, ← hA]
theorem m_tell54 {r48 : Int32 → Int32 → gS → Option (Int32 × gS)} (Zk : tOK Z) (M : mSit Z S h d e qs) (K : qsOK Z e qs) (hg : g < tn1 Z) (T : RT Z qs (g + 1) S) : ∃ S', oSame m47 S S' ∧ RT Z qs g S' ∧ fX12_tellLeast_h54 5000 r48 5000 (nI (2 ^ tn0 Z)) (nI g) 0 S = r48 (nI (2 ^ tn0 Z)) (dI g) S' := by
  have z6 := Zk.2.1.2
  have z8 := Zk.1.2
  have p256 := pow256 z8
  have main : ∀ (m k f : Nat) (S1 : gS), k + m = 2 ^ tn0 Z → m < f → oSame m47 S S1 → RT Z qs (g + 1) S1 → (∀ had, had < k → S1 47 (256 * g + had) = nI (LN Z qs (tn1 Z - g) had)) → ∃ S', oSame m47 S S' ∧ RT Z qs g S' ∧ fX12_tellLeast_h54 5000 r48 f (nI (2 ^ tn0 Z)) (nI g) (nI k) S1 = r48 (nI (2 ^ tn0 Z)) (dI g) S' := by
    intro m
    induction m with
    | zero =>
      intro k f S1 hk hf s T1 T2
      obtain ⟨f, rfl⟩ : ∃ f', f = f' + 1 := ⟨f - 1, by omega⟩
      refine ⟨S1, s, fun g' h1 h2 had h3 => ?_, ?_⟩
      · by_cases q : g' = g
        · subst q
          exact T2 had (by omega)
        · exact T1 g' (by omega) h2 had h3
      · show fX12_tellLeast_b54 5000 r48 _ (nI (2 ^ tn0 Z)) (nI g) (nI k) S1 = _
        unfold fX12_tellLeast_b54
        rw [if_pos (nI_le (by omega) (by omega))]
        rfl
    | succ m ih =>
      intro k f S1 hk hf s T1 T2
      obtain ⟨f, rfl⟩ : ∃ f', f = f' + 1 := ⟨f - 1, by omega⟩
      have hF : fX12_tellLeast_h54 5000 r48 (f + 1) (nI (2 ^ tn0 Z)) (nI g) (nI k) S1 = fX12_tellLeast_h54 5000 r48 f (nI (2 ^ tn0 Z)) (nI g) (nI (k + 1)) (sU S1 47 (256 * g + k) (nI (LN Z qs (tn1 Z - g) k))) := by
        show fX12_tellLeast_b54 5000 r48 (fX12_tellLeast_h54 5000 r48 f) (nI (2 ^ tn0 Z)) (nI g) (nI k) S1 = _
        unfold fX12_tellLeast_b54
        rw [if_neg (nI_ge (by omega) (by omega))]
        exact m_tell81 Zk (M.on (m47.same s)) K hg (by omega) T1
      rw [hF]
      refine ih (k + 1) f _ (by omega) (by omega) (s.up rfl) (fun g' h1 h2 had h3 => ?_) (fun had h1 => ?_)
      · rw [sU_ap, if_neg (by omega)]
        exact T1 g' h1 h2 had h3
      · rw [sU_ap]
        by_cases q : had = k
        · rw [if_pos ⟨rfl, by omega⟩, q]
        · rw [if_neg (by omega)]
          exact T2 had (by omega)
  exact main (2 ^ tn0 Z) 0 5000 S (by omega) (by omega) oSame.rf T (fun _ q => absurd q (by omega))
theorem m_tellLeast (Zk : tOK Z) (M : mSit Z S h d e qs) (K : qsOK Z e qs) : ∃ S', fX12_tellLeast 5000 S = some (0, S') ∧ oSame m47 S S' ∧ RT Z qs 0 S' := by
  have z6 := Zk.2.1.2
  have z8 := Zk.1.2
  have p256 := pow256 z8
  have fill : ∀ (m k f : Nat) (S1 : gS), k + m = 2 ^ tn0 Z → m < f → oSame m47 S S1 → (∀ had, had < k → S1 47 (256 * tn1 Z + had) = 0) → ∃ S', oSame m47 S S' ∧ RT Z qs (tn1 Z) S' ∧ fX12_tellLeast_h11 5000 f (nI (2 ^ tn0 Z)) (nI k) S1 = fX12_tellLeast_h48 5000 5000 (nI (2 ^ tn0 Z)) (dI (tn1 Z)) S' := by
    intro m
    induction m with
    | zero =>
      intro k f S1 hk hf s T2
      obtain ⟨f, rfl⟩ : ∃ f', f = f' + 1 := ⟨f - 1, by omega⟩
      have m1 : S1 5 1 = nI (tn1 Z) := (M.on (m47.same s)).1.2.1
      refine ⟨S1, s, fun g' h1 h2 had h3 => ?_, ?_⟩
      · obtain rfl : g' = tn1 Z := by omega
        rw [Nat.sub_self]
        exact T2 had (by omega)
      · show fX12_tellLeast_b11 5000 _ (nI (2 ^ tn0 Z)) (nI k) S1 = _
        unfold fX12_tellLeast_b11
        rw [if_pos (nI_le (by omega) (by omega))]
        unfold fX12_tellLeast_b39
        rw [m1, dI_sub]
    | succ m ih =>
      intro k f S1 hk hf s T2
      obtain ⟨f, rfl⟩ : ∃ f', f = f' + 1 := ⟨f - 1, by omega⟩
      have m1 : S1 5 1 = nI (tn1 Z) := (M.on (m47.same s)).1.2.1
      have hF : fX12_tellLeast_h11 5000 (f + 1) (nI (2 ^ tn0 Z)) (nI k) S1 = fX12_tellLeast_h11 5000 f (nI (2 ^ tn0 Z)) (nI (k + 1)) (sU S1 47 (256 * tn1 Z + k) 0) := by
        show fX12_tellLeast_b11 5000 (fX12_tellLeast_h11 5000 f) (nI (2 ^ tn0 Z)) (nI k) S1 = _
        unfold fX12_tellLeast_b11
        rw [if_neg (nI_ge (by omega) (by omega))]
        unfold fX12_tellLeast_b16
        dsimp only [lt]
        rw [m1, shl8 _ (by omega), nI_add, chk_t (inb_t (by omega) (by decide)), nI_clamp (by omega), nI_1 k]
      rw [hF]
      refine ih (k + 1) f _ (by omega) (by omega) (s.up rfl) (fun had h1 => ?_)
      rw [sU_ap]
      by_cases q : had = k
      · rw [if_pos ⟨rfl, by omega⟩]
      · rw [if_neg (by omega)]
        exact T2 had (by omega)
  have down : ∀ (m : Nat) (S1 : gS) (f : Nat), m ≤ tn1 Z → m < f → oSame m47 S S1 → RT Z qs m S1 → ∃ S', fX12_tellLeast_h48 5000 f (nI (2 ^ tn0 Z)) (dI m) S1 = some (0, S') ∧ oSame m47 S S' ∧ RT Z qs 0 S' := by
    intro m
    induction m with
    | zero =>
      intro S1 f hm hf s T
      obtain ⟨f, rfl⟩ : ∃ f', f = f' + 1 := ⟨f - 1, by omega⟩
      refine ⟨S1, ?_, s, T⟩
      show fX12_tellLeast_b48 5000 _ (nI (2 ^ tn0 Z)) (dI 0) S1 = _
      unfold fX12_tellLeast_b48
      rw [dI_0, if_pos (by decide)]
      rfl
    | succ m ih =>
      intro S1 f hm hf s T
      obtain ⟨f, rfl⟩ : ∃ f', f = f' + 1 := ⟨f - 1, by omega⟩
      obtain ⟨S2, s2, T2, e2⟩ := m_tell54 (r48 := fX12_tellLeast_h48 5000 f) Zk (M.on (m47.same s)) K (g := m) (by omega) T
      obtain ⟨S', a1, a2, a3⟩ := ih S2 f (by omega) (by omega) (s.tr s2) T2
      refine ⟨S', ?_, a2, a3⟩
      show fX12_tellLeast_b48 5000 (fX12_tellLeast_h48 5000 f) (nI (2 ^ tn0 Z)) (dI (m + 1)) S1 = _
      unfold fX12_tellLeast_b48
      rw [dI_s, if_neg (nI_pos (by omega))]
      exact e2.trans a1
  obtain ⟨S2, a1, a2, a3⟩ := fill (2 ^ tn0 Z) 0 5000 S (by omega) (by omega) oSame.rf (fun _ q => absurd q (by omega))
  obtain ⟨S', b1, b2, b3⟩ := down (tn1 Z) S2 5000 (Nat.le_refl _) (by omega) a1 a2
  refine ⟨S', ?_, b2, b3⟩
  unfold fX12_tellLeast fX12_tellLeast_b0
  rw [show S 5 0 = nI (tn0 Z) from M.1.1, shl_pow _ (by omega)]
  exact a3.trans b1
end
end

/-! part 73.shared -/
section
section
variable {N g had k : Nat} {Z S0 S : gS} {d : Int32} {h : Nat} {e : Nat → Int32} {qs : Nat → qT}
theorem m_has48 {r30 : Int32 → Int32 → Int32 → Int32 → gS → Option (Int32 × gS)} {x1 : Int32} (Zk : tOK Z) (M : mSit Z S h d e qs) (K : qsOK Z e qs) (hg : g < tn1 Z) (hh : had < 2 ^ tn0 Z) (T : RT Z qs 0 S) : fX12_has_b36 5000 r30 x1 (nI had) (nI g) S = fX12_has_b98 5000 r30 x1 (nI had) (owV (okO Z qs g had) (tn0 Z)) (nI g) S := by
  have z6 := Zk.2.1.2
  have z8 := Zk.1.2
  have p256 := pow256 z8
  have m0 : S 5 0 = nI (tn0 Z) := M.1.1
  have T1 : RT Z qs (g + 1) S := fun g' h1 => T g' (by omega)
  have main : ∀ (m f : Nat) (v : Int32), m ≤ tn0 Z → m < f → ((∃ k, m ≤ k ∧ k < tn0 Z ∧ okO Z qs g had k = true ∧ (∀ i, m ≤ i → i < k → okO Z qs g had i = false) ∧ v = nI k) ∨ ((∀ i, m ≤ i → i < tn0 Z → okO Z qs g had i = false) ∧ v = -1)) → fX12_has_h48 5000 r30 f x1 (nI had) v (nI g) (dI m) S = fX12_has_b98 5000 r30 x1 (nI had) (owV (okO Z qs g had) (tn0 Z)) (nI g) S := by
    intro m
    induction m with
    | zero =>
      intro f v hm hf I
      obtain ⟨f, rfl⟩ : ∃ f', f = f' + 1 := ⟨f - 1, by omega⟩
      have hv : v = owV (okO Z qs g had) (tn0 Z) := by
        refine owV_an ?_
        rcases I with ⟨k, a1, a2, a3, a4, a5⟩ | ⟨a1, a2⟩
        · exact Or.inl ⟨k, a2, a3, fun i => a4 i (Nat.zero_le _), a5⟩
        · exact Or.inr ⟨fun i => a1 i (Nat.zero_le _), a2⟩
      show fX12_has_b48 5000 r30 _ x1 (nI had) v (nI g) (dI 0) S = _
      unfold fX12_has_b48
      rw [dI_0, if_pos (by decide), hv]
    | succ m ih =>
      intro f v hm hf I
      obtain ⟨f, rfl⟩ : ∃ f', f = f' + 1 := ⟨f - 1, by omega⟩
      have hl := LN_le (Z := Z) (qs := qs) (tn1 Z - (g + 1)) (had ||| 2 ^ m)
      have hl2 := LN_le (Z := Z) (qs := qs) (tn1 Z - g) had
      obtain ⟨p1, p2⟩ := pr_ok Zk (k := m) (by omega)
      have hF : fX12_has_h48 5000 r30 (f + 1) x1 (nI had) v (nI g) (dI (m + 1)) S = if iv (mayN Z qs g had m) = 0 then fX12_has_h48 5000 r30 f x1 (nI had) v (nI g) (dI m) S else fX12_has_b65 5000 r30 (fX12_has_h48 5000 r30 f) x1 (nI had) v (nI g) (nI m) S := by
        show fX12_has_b48 5000 r30 (fX12_has_h48 5000 r30 f) x1 (nI had) v (nI g) (dI (m + 1)) S = _
        unfold fX12_has_b48
        rw [dI_s, if_neg (nI_pos (by omega))]
        unfold fX12_has_b53
        rw [bnd_t (m_mayHave Zk M K hg (by omega) (by omega))]
        rfl
      have no : okO Z qs g had m = false → ((∃ k, m ≤ k ∧ k < tn0 Z ∧ okO Z qs g had k = true ∧ (∀ i, m ≤ i → i < k → okO Z qs g had i = false) ∧ v = nI k) ∨ ((∀ i, m ≤ i → i < tn0 Z → okO Z qs g had i = false) ∧ v = -1)) := by
        intro q
        have hx : ∀ i, m ≤ i → (m + 1 ≤ i → okO Z qs g had i = false) → okO Z qs g had i = false := by
          intro i h1 h2
          by_cases e : i = m
          · rw [e]; exact q
          · exact h2 (by omega)
        rcases I with ⟨k, a1, a2, a3, a4, a5⟩ | ⟨a1, a2⟩
        · exact Or.inl ⟨k, by omega, a2, a3, fun i h1 h2 => hx i h1 (fun h3 => a4 i h3 h2), a5⟩
        · exact Or.inr ⟨fun i h1 h2 => hx i h1 (fun h3 => a1 i h3 h2), a2⟩
      cases hm2 : mayN Z qs g had m with
      | false =>
        rw [hF, hm2]
        exact ih f v (by omega) (by omega) (no (by unfold okO; rw [hm2]; rfl))
      | true =>
        have hF2 : fX12_has_h48 5000 r30 (f + 1) x1 (nI had) v (nI g) (dI (m + 1)) S = if nI (prN Z m + LN Z qs (tn1 Z - (g + 1)) (had ||| 2 ^ m)) = nI (LN Z qs (tn1 Z - g) had) then fX12_has_h48 5000 r30 f x1 (nI had) (nI m) (nI g) (dI m) S else fX12_has_h48 5000 r30 f x1 (nI had) v (nI g) (dI m) S := by
          rw [hF, hm2]
          show fX12_has_b65 5000 r30 (fX12_has_h48 5000 r30 f) x1 (nI had) v (nI g) (nI m) S = _
          unfold fX12_has_b65
          rw [bnd_t (m_with Zk M hg (by omega) hh T1), shl8 g (by omega), nI_add, chk_t (inb_t (by omega) (by decide)), nI_clamp (by omega)]
          simp only [T g (Nat.zero_le _) (by omega) had hh]
          rfl
        rw [hF2]
        by_cases hv : prN Z m + LN Z qs (tn1 Z - (g + 1)) (had ||| 2 ^ m) = LN Z qs (tn1 Z - g) had
        · rw [hv, if_pos rfl]
          exact ih f _ (by omega) (by omega) (Or.inl ⟨m, Nat.le_refl _, by omega, by unfold okO; rw [hm2, decide_eq_true hv]; rfl, fun i h1 h2 => absurd h2 (by omega), rfl⟩)
        · rw [if_neg (fun q => hv ((nI_eq (by omega) (by omega)).mp q))]
          exact ih f v (by omega) (by omega) (no (by unfold okO; rw [hm2, decide_eq_false hv]; rfl))
  unfold fX12_has_b36
  rw [m0, dI_sub]
  exact main (tn0 Z) 5000 (-1) (Nat.le_refl _) (by omega) (Or.inr ⟨fun i h1 h2 => absurd h2 (by omega), rfl⟩)
theorem m_has30 (Zk : tOK Z) (M : mSit Z S h d e qs) (K : qsOK Z e qs) (hg : g < tn1 Z) (T : RT Z qs 0 S) : fX12_has_h30 5000 5000 (nI g) 0 (-1) 0 S = some (owV (okO Z qs g (tkN Z qs g)) (tn0 Z), S) := by
  have z6 := Zk.2.1.2
  have z8 := Zk.1.2
  have p256 := pow256 z8
  have main : ∀ (m k f : Nat) (v : Int32), k + m = g + 1 → m < f → (1 ≤ k → v = owV (okO Z qs (k - 1) (tkN Z qs (k - 1))) (tn0 Z)) → fX12_has_h30 5000 f (nI g) (nI (tkN Z qs k)) v (nI k) S = some (owV (okO Z qs g (tkN Z qs g)) (tn0 Z), S) := by
    intro m
    induction m with
    | zero =>
      intro k f v hk hf hv
      obtain ⟨f, rfl⟩ : ∃ f', f = f' + 1 := ⟨f - 1, by omega⟩
      obtain rfl : k = g + 1 := by omega
      show fX12_has_b30 5000 _ (nI g) _ v (nI (g + 1)) S = _
      unfold fX12_has_b30
      rw [if_pos (nI_lt (by omega) (by omega)), hv (by omega)]
      rfl
    | succ m ih =>
      intro k f v hk hf hv
      obtain ⟨f, rfl⟩ : ∃ f', f = f' + 1 := ⟨f - 1, by omega⟩
      obtain ⟨a1, a2, -, -, -⟩ := tk_ok (qs := qs) Zk k (by omega)
      have e1 : tkN Z qs (k + 1) = if owN Z qs k < tn0 Z then tkN Z qs k ||| 2 ^ owN Z qs k else tkN Z qs k := rfl
      have ev : owV (okO Z qs k (tkN Z qs k)) (tn0 Z) = if owN Z qs k < tn0 Z then nI (owN Z qs k) else -1 := rfl
      show fX12_has_b30 5000 (fX12_has_h30 5000 f) (nI g) (nI (tkN Z qs k)) v (nI k) S = _
      unfold fX12_has_b30
      rw [if_neg (nI_nlt (by omega) (by omega)), m_has48 Zk M K (by omega) a1 T, ← ih (k + 1) f (owV (okO Z qs k (tkN Z qs k)) (tn0 Z)) (by omega) (by omega) (fun _ => rfl), e1]
      unfold fX12_has_b98
      by_cases ho : owN Z qs k < tn0 Z
      · rw [if_pos ho] at ev
        rw [ev, if_pos ho, if_neg (nI_nem (by omega)), ← (or_all (tkN Z qs k) (by omega) (owN Z qs k) (by omega)).1]
        unfold fX12_has_b108 fX12_has_b111
        rw [nI_1 k]
      · rw [if_neg ho] at ev
        rw [ev, if_neg ho, if_pos rfl]
        unfold fX12_has_b104 fX12_has_b111
        rw [nI_1 k, Int32.or_zero]
  exact main (g + 1) 0 5000 (-1) (by omega) (by omega) (fun q => absurd q (by omega))
end
theorem st_shared : Lw_shared JJ := by
  intro SX SM x1 hJ
  obtain ⟨S1, Z, h, qs, hS1, c0, hJ1, Zk, h9, C, M, K, w41, x0, x5⟩ := pre hJ
  have z6 := Zk.2.1.2
  have hM0 : fX12_shared 5000 x1 SM = if x1 < 0 then fX12_shared_b14 5000 S1 else fX12_shared_b9 5000 x1 S1 := by
    unfold fX12_shared fX12_shared_b0
    dsimp only [lt]
    rw [← hS1]
  cases h1 : wth x1 0 1 with
  | false =>
    refine stFl 5000 5000 1 hJ one_ne (Or.inr rfl) (nwF h1) ?_
    show fX12_shared 5000 x1 SM = _
    rw [hM0]
    rcases w01F h1 with q | ⟨q1, q2⟩
    · rw [if_pos q, ← hS1]
      rfl
    · rw [if_neg q1, ← hS1]
      unfold fX12_shared_b9
      rw [if_neg q2]
      rfl
  | true =>
  obtain ⟨q1, q2, q3⟩ := w01T h1
  obtain ⟨S2, t1, t2, t3⟩ := m_tellLeast Zk M K
  obtain ⟨⟨v, X2⟩, r1, r2, r3, r4, r5⟩ := x_share Zk K C
  dsimp only at r2 r3 r4
  obtain ⟨-, -, l1, l2, l3⟩ := tk_ok (qs := qs) Zk (tn1 Z) (Nat.le_refl _)
  rw [Nat.sub_self] at l3
  have hL : S2 47 0 = nI (1000 * (tn1 Z - myN Z qs (tn1 Z)) + mcN Z qs (tn1 Z)) := by
    have := t3 0 (Nat.zero_le _) (Nat.zero_le _) 0 (Nat.pow_pos (by decide))
    rw [Nat.sub_zero, l3] at this
    exact this
  obtain ⟨d1, d2⟩ := div_all (tn1 Z - myN Z qs (tn1 Z)) (by omega) (mcN Z qs (tn1 Z)) (by omega)
  have hX : fX11_shared 5000 x1 SX = if x1 = 0 then fX11_shared_b27 5000 X2 else fX11_shared_b37 5000 X2 := by
    refine (nwT h1).trans ?_
    dsimp only [lt]
    rw [bnd_t r1]
  have hM : fX12_shared 5000 x1 SM = if x1 = 0 then fX12_shared_b28 5000 S2 else fX12_shared_b48 5000 S2 := by
    rw [hM0, if_neg q1]
    unfold fX12_shared_b9
    rw [if_pos q2]
    unfold fX12_shared_b20
    rw [bnd_t t1]
  have s0 : mSame (sU SM 99 4 0) S2 := by rw [← hS1]; exact m47.same t2
  have s4 : S2 99 4 = 0 := by rw [t2 99 4 rfl]; exact c0
  have m1 : S2 5 1 = nI (tn1 Z) := (M.on (m47.same t2)).1.2.1
  rcases q3 with rfl | rfl
  · refine stSu 5000 5000 (nI (myN Z qs (tn1 Z))) hJ rfl (Or.inl rfl) ⟨(0, X2 52 2, X2), hX, rfl, r3, xSh.same r2⟩ ⟨(S2 5 1 - S2 47 0 / 1000, S2), hM, ?_, s0, s4⟩
    show S2 5 1 - S2 47 0 / 1000 = _
    rw [m1, hL, d1, pk_sub (by omega)]
    rw [show tn1 Z - (tn1 Z - myN Z qs (tn1 Z)) = myN Z qs (tn1 Z) by omega]
  · refine stSu 5000 5000 (nI (mcN Z qs (tn1 Z))) hJ rfl (Or.inl rfl) ⟨(0, X2 52 3, X2), hX, rfl, r4, xSh.same r2⟩ ⟨(S2 47 0 - S2 47 0 / 1000 * 1000, S2), hM, ?_, s0, s4⟩
    show S2 47 0 - S2 47 0 / 1000 * 1000 = _
    rw [hL, d1, d2]
theorem st_has : Lw_has JJ := by
  intro SX SM x1 hJ
  obtain ⟨S1, Z, h, qs, hS1, c0, hJ1, Zk, h9, C, M, K, w41, x0, x5⟩ := pre hJ
  have z6 := Zk.2.1.2
  have hF : fX12_has 5000 x1 SM = if iv (inb x1 (tn1 Z)) = 0 then fX12_has_b13 5000 S1 else fX12_has_b19 5000 x1 S1 := by
    unfold fX12_has fX12_has_b0
    dsimp only [lt]
    rw [← hS1, bnd_t (m_isGuild M.1.2.1 (by omega))]
  cases h1 : inb x1 (tn1 Z) with
  | false =>
    refine stFl 5000 5000 1 hJ one_ne (Or.inr rfl) (ngF x5 (by omega) h1) ?_
    show fX12_has 5000 x1 SM = _
    rw [hF, h1, ← hS1]
    rfl
  | true =>
  obtain ⟨g, hg, rfl⟩ := inb_of h1 (by omega)
  have hgc : (nI g).toNatClampNeg = g := nI_clamp (by omega)
  obtain ⟨S2, t1, t2, t3⟩ := m_tellLeast Zk M K
  obtain ⟨⟨v, X2⟩, r1, r2, r3, r4, r5⟩ := x_share Zk K C
  dsimp only at r2 r5
  refine stSu 5000 5000 (owV (okO Z qs g (tkN Z qs g)) (tn0 Z)) hJ rfl (Or.inl rfl) ⟨(0, X2 61 g, X2), ?_, rfl, r5 g hg, xSh.same r2⟩ ⟨(owV (okO Z qs g (tkN Z qs g)) (tn0 Z), S2), ?_, rfl, by rw [← hS1]; exact m47.same t2, (t2 99 4 rfl).trans c0⟩
  · show fX11_has 5000 (nI g) SX = _
    refine (ngT x5 (by omega) h1).trans ?_
    dsimp only [lt]
    rw [bnd_t r1, chk_t (inb_t (by omega) (by decide)), hgc]
  · show fX12_has 5000 (nI g) SM = _
    rw [hF, h1]
    show fX12_has_b19 5000 (nI g) S1 = _
    unfold fX12_has_b19
    rw [bnd_t t1]
    exact m_has30 Zk (M.on (m47.same t2)) K hg t3
end

/-! part 74.guess -/
section
/-! a guess of one greed: a pure picture -/
noncomputable def alB (c : Nat → Bool) : Nat → Bool
  | 0 => true
  | n + 1 => alB c n && c n
theorem alB_t {c : Nat → Bool} : ∀ n, alB c n = true ↔ ∀ i, i < n → c i = true := by
  intro n
  induction n with
  | zero => exact ⟨fun _ i h => absurd h (by omega), fun _ => rfl⟩
  | succ n ih =>
    show (alB c n && c n) = true ↔ _
    rw [Bool.and_eq_true, ih]
    refine ⟨fun h i hi => ?_, fun h => ⟨fun i hi => h i (by omega), h n (by omega)⟩⟩
    by_cases q : i = n
    · rw [q]; exact h.2
    · exact h.1 i (by omega)
theorem alB_f {c : Nat → Bool} {n i : Nat} (hi : i < n) (h : c i = false) : alB c n = false := by
  cases q : alB c n with
  | false => rfl
  | true =>
    have := (alB_t n).mp q i hi
    rw [h] at this
    cases this
noncomputable def upE (e : Nat → Int32) (g : Nat) (x : Int32) : Nat → Int32 := fun i => if i = g then x else e i
/-- what is SEEN: who, when, which sin -/
def seX (n : Nat) (wh wn : Nat → Nat) (sn : Nat → Int32) (S : gS) : Prop := S 28 3 = nI n ∧ ∀ i, i < n → S 29 i = nI (wh i) ∧ S 30 i = nI (wn i) ∧ S 31 i = sn i
def seM (n : Nat) (wh wn : Nat → Nat) (sn : Nat → Int32) (S : gS) : Prop := S 99 40 = nI n ∧ ∀ i, i < n → S 48 i = nI (wh i) ∧ S 49 i = nI (wn i) ∧ S 50 i = sn i
def seK (Z : gS) (n : Nat) (wh wn : Nat → Nat) : Prop := n ≤ 8 ∧ ∀ i, i < n → wh i < tn1 Z ∧ wn i ≤ 20
noncomputable def suB (n : Nat) (wh wn : Nat → Nat) (sn : Nat → Int32) (R : Nat → Int32) (g : Nat) : Bool := alB (fun i => !(decide (wh i = g)) || decide (R (wn i) = sn i)) n
noncomputable def sq (Z : gS) (d : Int32) (h : Nat) (qs : Nat → qT) (e : Int32) (g t : Nat) : Int32 := (trj Z e d (wetZ Z) h (qs g) t).1
noncomputable def asB (Z : gS) (d : Int32) (h : Nat) (qs : Nat → qT) (n : Nat) (wh wn : Nat → Nat) (sn : Nat → Int32) (e : Nat → Int32) : Bool := alB (fun i => decide (sq Z d h qs (e (wh i)) (wh i) (wn i) = sn i)) n
noncomputable def otB (Z : gS) (d : Int32) (h : Nat) (qs : Nat → qT) (n : Nat) (wh wn : Nat → Nat) (sn : Nat → Int32) (x : Int32) : Bool := alB (fun g => decide (nI g = x) || suB n wh wn sn (sq Z d h qs (Z 5 g) g) g) (tn1 Z)
theorem suB_t {n : Nat} {wh wn : Nat → Nat} {sn R : Nat → Int32} {g : Nat} : suB n wh wn sn R g = true ↔ ∀ i, i < n → wh i = g → R (wn i) = sn i := by
  unfold suB
  rw [alB_t]
  refine ⟨fun h i hi hg => ?_, fun h i hi => ?_⟩
  · have := h i hi
    rw [hg, decide_eq_true rfl] at this
    exact of_decide_eq_true this
  · by_cases hg : wh i = g
    · rw [decide_eq_true hg, decide_eq_true (h i hi hg)]
      rfl
    · rw [decide_eq_false hg]
      rfl
theorem asB_all {Z : gS} {d : Int32} {h : Nat} {qs : Nat → qT} {n : Nat} {wh wn : Nat → Nat} {sn : Nat → Int32} (Zk : tOK Z) (hk : seK Z n wh wn) : asB Z d h qs n wh wn sn (Z 5) = otB Z d h qs n wh wn sn (-1) := by
  have z6 := Zk.2.1.2
  rw [Bool.eq_iff_iff]
  unfold asB otB
  rw [alB_t, alB_t]
  refine ⟨fun a g hg => ?_, fun a i hi => ?_⟩
  · rw [decide_eq_false (nI_nem (by omega)), Bool.false_or, suB_t]
    intro i hi hw
    have := of_decide_eq_true (a i hi)
    rw [hw] at this
    exact this
  · have := a (wh i) (hk.2 i hi).1
    have hg := (hk.2 i hi).1
    rw [decide_eq_false (nI_nem (by omega)), Bool.false_or, suB_t] at this
    exact decide_eq_true (this i hi rfl)
theorem asB_one {Z : gS} {d x : Int32} {h g : Nat} {qs : Nat → qT} {n : Nat} {wh wn : Nat → Nat} {sn : Nat → Int32} (Zk : tOK Z) (hg : g < tn1 Z) (hk : seK Z n wh wn) : asB Z d h qs n wh wn sn (upE (Z 5) g x) = (otB Z d h qs n wh wn sn (nI g) && suB n wh wn sn (sq Z d h qs x g) g) := by
  have z6 := Zk.2.1.2
  rw [Bool.eq_iff_iff, Bool.and_eq_true, suB_t]
  unfold asB otB
  rw [alB_t, alB_t]
  refine ⟨fun a => ⟨fun g' hg' => ?_, fun i hi hw => ?_⟩, fun a i hi => ?_⟩
  · by_cases q : g' = g
    · rw [q, decide_eq_true rfl]; rfl
    · rw [decide_eq_false (fun z => q ((nI_eq (by omega) (by omega)).mp z)), Bool.false_or, suB_t]
      intro i hi hw
      have := of_decide_eq_true (a i hi)
      unfold upE at this
      rw [hw, if_neg q] at this
      exact this
  · have := of_decide_eq_true (a i hi)
    unfold upE at this
    rw [hw, if_pos rfl] at this
    exact this
  · have hg' := (hk.2 i hi).1
    refine decide_eq_true ?_
    unfold upE
    by_cases q : wh i = g
    · rw [if_pos q, q]
      exact a.2 i hi q
    · rw [if_neg q]
      have := a.1 (wh i) hg'
      rw [decide_eq_false (fun z => q ((nI_eq (by omega) (by omega)).mp z)), Bool.false_or, suB_t] at this
      exact this i hi rfl
noncomputable def fitB (Z : gS) (d : Int32) (h : Nat) (qs : Nat → qT) (n : Nat) (wh wn : Nat → Nat) (sn : Nat → Int32) (j : Nat) : Bool := !(decide (nI (j % 10) = Z 5 (j / 10))) && (otB Z d h qs n wh wn sn (nI (j / 10)) && suB n wh wn sn (sq Z d h qs (nI (j % 10)) (j / 10)) (j / 10))
/-- the i-th that fits -/
noncomputable def fI (c : Nat → Bool) (i : Nat) : Nat := fsK (fun j => c j && decide (cntB c j = i)) 60
theorem cntB_mo {c : Nat → Bool} : ∀ a b, a ≤ b → cntB c a ≤ cntB c b := by
  intro a b
  induction b with
  | zero => intro h; obtain rfl : a = 0 := by omega
            exact Nat.le_refl _
  | succ b ih =>
    intro h
    by_cases q : a = b + 1
    · rw [q]; exact Nat.le_refl _
    · have := ih (by omega)
      show _ ≤ cntB c b + _
      omega
theorem fI_at {c : Nat → Bool} {j : Nat} (hj : j < 60) (hc : c j = true) : fI c (cntB c j) = j := by
  have hs : ∀ k, c k = true → cntB c (k + 1) = cntB c k + 1 := fun k q => by
    show cntB c k + (if c k = true then 1 else 0) = _
    rw [if_pos q]
  rcases fsK_sp (ok := fun k => c k && decide (cntB c k = cntB c j)) 60 with ⟨a1, a2, a3⟩ | ⟨a1, a2⟩
  · have a2' : (c (fI c (cntB c j)) && decide (cntB c (fI c (cntB c j)) = cntB c j)) = true := a2
    rw [Bool.and_eq_true, decide_eq_true_iff] at a2'
    rcases Nat.lt_trichotomy (fI c (cntB c j)) j with q | q | q
    · have := cntB_mo (c := c) (fI c (cntB c j) + 1) j (by omega)
      rw [hs _ a2'.1] at this
      omega
    · exact q
    · have := cntB_mo (c := c) (j + 1) (fI c (cntB c j)) (by omega)
      rw [hs _ hc] at this
      omega
  · exfalso
    have : (c j && decide (cntB c j = cntB c j)) = false := a2 j hj
    rw [hc, decide_eq_true rfl] at this
    cases this
/-- the WORST behind an hour, and all the WORSTS of the first n that fit -/
noncomputable def wsN (Z : gS) (d : Int32) (h : Nat) (qs : Nat → qT) (j t : Nat) : Nat := gtN (fun g => sq Z d h qs (upE (Z 5) (j / 10) (nI (j % 10)) g) g t) (tn1 Z)
noncomputable def orN (w : Nat → Nat) : Nat → Nat
  | 0 => 0
  | n + 1 => orN w n ||| 2 ^ w n
theorem orN_lt {w : Nat → Nat} : ∀ n, (∀ i, i < n → w i < 8) → orN w n < 256 := by
  intro n
  induction n with
  | zero => intro _; exact (by decide : 0 < 256)
  | succ n ih =>
    intro h
    exact or_lt (n := 8) (ih (fun i hi => h i (by omega))) (h n (by omega))
end

/-! part 75.guess -/
section
section
variable {Z S S0 : gS} {d e : Int32} {h g n : Nat} {qs : Nat → qT} {wh wn : Nat → Nat} {sn : Nat → Int32} {q : qT}
theorem x_follow {T1 : Nat} (hT1 : 64 ≤ T1 ∧ T1 ≤ 70) (hn : xN T1 = 21) (Zk : tOK Z) (hx : tXz (xtw S0) Z S) (ht : xtw S = xtw S0) (hq : qOK (tn0 Z) q) (he : eOK e) (W : wkA S e d (nI h) q) (h9 : h ≤ 999) : ∃ S', fX2_follow 5000 (xtw S0) T1 S = some (0, S') ∧ (∀ t, t ≤ 20 → S' T1 t = (trj Z e d (wetZ Z) h q t).1) ∧ oSame (fun i j => xWk i j || i == T1) S S' := by
  have hT := xtw_cases (S := S0)
  have main : Gv (fX2_follow_h2 5000 5000 (xtw S0) T1 0 S) (fun r => r.1 = 0 ∧ (∀ t, t < 21 → r.2 T1 t = (trj Z e d (wetZ Z) h q t).1) ∧ oSame (fun i j => xWk i j || i == T1) S r.2) := by
    refine loopG (A := gS) (fun f k S' => fX2_follow_h2 5000 f (xtw S0) T1 (nI k) S') (fun k S' => wkA S' e d (nI (h + k)) (trj Z e d (wetZ Z) h q k) ∧ (∀ t, t < k → S' T1 t = (trj Z e d (wetZ Z) h q t).1) ∧ oSame (fun i j => xWk i j || i == T1) S S') _ 21 ?_ ?_ 21 0 S 5000 (by omega) ⟨W, fun _ q => absurd q (by omega), oSame.rf⟩ (by omega)
    · rintro f S1 ⟨i1, i2, i3⟩
      refine ⟨(0, S1), ?_, rfl, i2, i3⟩
      show fX2_follow_b2 5000 _ (xtw S0) T1 (nI 21) S1 = _
      unfold fX2_follow_b2
      rw [hn, if_pos (by decide)]
      rfl
    · rintro f k S1 hk ⟨i1, i2, i3⟩
      have hP : ∀ i j, xWk i j = false → i ≠ T1 → (xWk i j || i == T1) = false := by
        intro i j a b
        rw [a, beq_false_of_ne b]
        rfl
      have s1 : ∀ x, oSame (fun i j => xWk i j || i == T1) S (sU S1 T1 k x) := fun x => i3.up (by
        show (xWk T1 k || T1 == T1) = true
        rw [beq_self_eq_true, Bool.or_true])
      have W1 : ∀ x, wkA (sU S1 T1 k x) e d (nI (h + k)) (trj Z e d (wetZ Z) h q k) := by
        intro x
        unfold wkA
        rw [sU_ne (by omega)]
        exact i1
      have hx1 : ∀ S2, oSame (fun i j => xWk i j || i == T1) S S2 → tXz (xtw S0) Z S2 := by
        intro S2 s i j a b
        rw [s (xtw S0 + i) j ?_]
        · exact hx i j a b
        · refine hP _ _ (xWk_f ?_) (by omega)
          have := a
          have := b
          omega
      obtain ⟨S2, p1, p2, p3⟩ := x_passHour (N := 5000) (we := wetZ Z (h + k)) hT Zk (hx1 _ (s1 (S1 51 1))) (trj_ok (Z := Z) (d := d) (wf := wetZ Z) (h := h) hq he k) he (W1 (S1 51 1)) (by decide)
      refine Or.inr ⟨S2, ⟨?_, fun t ht' => ?_, ?_⟩, ?_⟩
      · rw [nI_1 (h + k)] at p2
        exact p2
      · rw [p3 T1 t (xWk_f (by omega)), sU_ap]
        by_cases q' : t = k
        · rw [if_pos ⟨rfl, q'⟩, i1.2.1, q']
        · rw [if_neg (fun z => q' z.2)]
          exact i2 t (by omega)
      · intro i j hij
        rw [p3 i j (by rw [Bool.or_eq_false_iff] at hij; exact hij.1)]
        exact s1 _ i j hij
      · show fX2_follow_b2 5000 (fX2_follow_h2 5000 f) (xtw S0) T1 (nI k) S1 = _
        unfold fX2_follow_b2
        rw [hn, if_neg (show ¬ (Int32.ofNat 21) ≤ nI k from nI_ge (b := 21) hk (by omega))]
        unfold fX2_follow_b8
        dsimp only [lt]
        rw [hn, chk_t (inb_t hk (by decide)), nI_clamp (n := k) (by omega), (W1 (S1 51 1)).2.2.2.2.2.1, bnd_t (x_wetZ Zk (hx1 _ (s1 (S1 51 1))) (by omega))]
        dsimp only
        rw [bnd_t p1]
        dsimp only
        rw [nI_1 k]
  obtain ⟨⟨v, S'⟩, r1, r2, r3, r4⟩ := main
  dsimp only at r2 r3 r4
  subst r2
  exact ⟨S', r1, fun t ht => r3 t (by omega), r4⟩
theorem x_suits {T1 : Nat} {R : Nat → Int32} (hn : xN T1 = 21) (hg : g < 2 ^ 31) (hk : seK Z n wh wn) (hz : tn1 Z ≤ 6) (X : seX n wh wn sn S) (hR : ∀ t, t ≤ 20 → S T1 t = R t) : fX5_suits 5000 28 (nI g) T1 S = some (iv (suB n wh wn sn R g), S) := by
  have k8 := hk.1
  have main : Gv (fX5_suits_h2 5000 5000 28 (nI g) T1 0 S) (fun r => r = (iv (suB n wh wn sn R g), S)) := by
    refine loopG (A := Unit) (fun f k _ => fX5_suits_h2 5000 f 28 (nI g) T1 (nI k) S) (fun k _ => alB (fun i => !(decide (wh i = g)) || decide (R (wn i) = sn i)) k = true) _ n ?_ ?_ n 0 () 5000 (by omega) rfl (by omega)
    · rintro f a i1
      refine ⟨(1, S), ?_, ?_⟩
      · show fX5_suits_b2 5000 _ 28 _ T1 (nI n) S = _
        unfold fX5_suits_b2
        rw [X.1, if_pos (nI_le (Nat.le_refl _) (by omega))]
        rfl
      · unfold suB
        rw [i1]
        rfl
    · rintro f k a hk1 i1
      obtain ⟨x1, x2, x3⟩ := X.2 k hk1
      obtain ⟨y1, y2⟩ := hk.2 k hk1
      have hF : fX5_suits_h2 5000 (f + 1) 28 (nI g) T1 (nI k) S = if nI (wh k) = nI g then fX5_suits_b52 5000 (fX5_suits_h2 5000 f) 28 (nI g) T1 (nI k) S else fX5_suits_b71 5000 (fX5_suits_h2 5000 f) 28 (nI g) T1 (nI k) S := by
        show fX5_suits_b2 5000 (fX5_suits_h2 5000 f) 28 (nI g) T1 (nI k) S = _
        unfold fX5_suits_b2
        rw [X.1, if_neg (nI_ge hk1 (by omega))]
        unfold fX5_suits_b10
        rw [chk_t (inb_t (by omega) (by decide)), nI_clamp (n := k) (by omega), show S (28 + 2) k = _ from x2, if_neg (nI_pos (by omega))]
        unfold fX5_suits_b19
        rw [chk_t (inb_t (by omega) (by decide)), nI_clamp (n := k) (by omega), show S (28 + 2) k = _ from x2, hn, if_neg (show ¬ (Int32.ofNat 21) ≤ nI (wn k) from nI_ge (b := 21) (by omega) (by omega))]
        unfold fX5_suits_b30 fX5_suits_b35
        rw [chk_t (inb_t (by omega) (by decide)), nI_clamp (n := k) (by omega), show S (28 + 1) k = _ from x1]
        rfl
      have nx : (!(decide (wh k = g)) || decide (R (wn k) = sn k)) = true → alB (fun i => !(decide (wh i = g)) || decide (R (wn i) = sn i)) (k + 1) = true := by
        intro q
        show (alB _ k && _) = true
        rw [i1]
        exact q
      have hF2 : fX5_suits_b52 5000 (fX5_suits_h2 5000 f) 28 (nI g) T1 (nI k) S = if R (wn k) = sn k then fX5_suits_b71 5000 (fX5_suits_h2 5000 f) 28 (nI g) T1 (nI k) S else fX5_suits_b69 5000 S := by
        unfold fX5_suits_b52
        rw [chk_t (inb_t (by omega) (by decide)), nI_clamp (n := k) (by omega), show S (28 + 2) k = _ from x2, hn, chk_t (inb_t (by omega) (by decide)), chk_t (inb_t (by omega) (by decide)), nI_clamp (n := wn k) (by omega), hR (wn k) y2, show S (28 + 3) k = _ from x3]
      have hF3 : fX5_suits_b71 5000 (fX5_suits_h2 5000 f) 28 (nI g) T1 (nI k) S = fX5_suits_h2 5000 f 28 (nI g) T1 (nI (k + 1)) S := by
        unfold fX5_suits_b71
        rw [nI_1 k]
      by_cases hw : wh k = g
      · by_cases hs : R (wn k) = sn k
        · refine Or.inr ⟨(), nx (by rw [decide_eq_true hs, Bool.or_true]), ?_⟩
          show fX5_suits_h2 5000 (f + 1) 28 (nI g) T1 (nI k) S = _
          rw [hF, hw, if_pos rfl, hF2, if_pos hs, hF3]
        · refine Or.inl ⟨(0, S), ?_, ?_⟩
          · show fX5_suits_h2 5000 (f + 1) 28 (nI g) T1 (nI k) S = _
            rw [hF, hw, if_pos rfl, hF2, if_neg hs]
            rfl
          · unfold suB
            rw [alB_f hk1 (by rw [decide_eq_true hw, decide_eq_false hs]; rfl)]
            rfl
      · refine Or.inr ⟨(), nx (by rw [decide_eq_false hw]; rfl), ?_⟩
        show fX5_suits_h2 5000 (f + 1) 28 (nI g) T1 (nI k) S = _
        rw [hF, if_neg (fun z => hw ((nI_eq (by omega) (by omega)).mp z)), hF3]
  obtain ⟨r, r1, rfl⟩ := main
  exact r1
/-- the class's rows hold how the SIN of each GUILD goes -/
def rwX (Z : gS) (d : Int32) (h : Nat) (qs : Nat → qT) (S : gS) (g0 : Nat) : Prop := ∀ g, g < g0 → ∀ t, t ≤ 20 → S (63 + 1 + g) t = sq Z d h qs (Z 5 g) g t
theorem xN_g : ∀ g, g < 6 → xN (63 + 1 + g) = 21 := by decide
theorem x_others {x : Int32} (Zk : tOK Z) (C : cSit 21 Z S h d qs) (hk : seK Z n wh wn) (X : seX n wh wn sn S) (R : rwX Z d h qs S (tn1 Z)) : fX2_doOthersSuit 5000 (xtw S) 28 x S = some (iv (otB Z d h qs n wh wn sn x), S) := by
  have z6 := Zk.2.1.2
  have x5 : S (xtw S) 5 = nI (tn1 Z) := (C.1 0 5 (by omega) (by omega)).trans Zk.2.1.1
  have main : Gv (fX2_doOthersSuit_h3 5000 5000 (xtw S) 28 x 0 S) (fun r => r = (iv (otB Z d h qs n wh wn sn x), S)) := by
    refine loopG (A := Unit) (fun f k _ => fX2_doOthersSuit_h3 5000 f (xtw S) 28 x (nI k) S) (fun k _ => alB (fun g => decide (nI g = x) || suB n wh wn sn (sq Z d h qs (Z 5 g) g) g) k = true) _ (tn1 Z) ?_ ?_ (tn1 Z) 0 () 5000 (by omega) rfl (by omega)
    · rintro f a i1
      refine ⟨(1, S), ?_, ?_⟩
      · show fX2_doOthersSuit_b3 5000 _ (xtw S) 28 _ (nI (tn1 Z)) S = _
        unfold fX2_doOthersSuit_b3
        rw [x5, if_pos (nI_le (Nat.le_refl _) (by omega))]
        rfl
      · unfold otB
        rw [i1]
        rfl
    · rintro f k a hk1 i1
      have hF : fX2_doOthersSuit_h3 5000 (f + 1) (xtw S) 28 x (nI k) S = if nI k = x then fX2_doOthersSuit_b36 5000 (fX2_doOthersSuit_h3 5000 f) (xtw S) 28 x (nI k) S else if iv (suB n wh wn sn (sq Z d h qs (Z 5 k) k) k) = 0 then fX2_doOthersSuit_b34 5000 S else fX2_doOthersSuit_b36 5000 (fX2_doOthersSuit_h3 5000 f) (xtw S) 28 x (nI k) S := by
        show fX2_doOthersSuit_b3 5000 (fX2_doOthersSuit_h3 5000 f) (xtw S) 28 x (nI k) S = _
        unfold fX2_doOthersSuit_b3
        rw [x5, if_neg (nI_ge hk1 (by omega))]
        unfold fX2_doOthersSuit_b12 fX2_doOthersSuit_b18
        dsimp only [lt]
        rw [chk_t (inb_t (by omega) (by decide)), nI_clamp (n := k) (by omega), bnd_t (x_suits (xN_g k (by omega)) (by omega) hk z6 X (R k hk1))]
      have nx : (decide (nI k = x) || suB n wh wn sn (sq Z d h qs (Z 5 k) k) k) = true → alB (fun g => decide (nI g = x) || suB n wh wn sn (sq Z d h qs (Z 5 g) g) g) (k + 1) = true := by
        intro q
        show (alB _ k && _) = true
        rw [i1]
        exact q
      have hF3 : fX2_doOthersSuit_b36 5000 (fX2_doOthersSuit_h3 5000 f) (xtw S) 28 x (nI k) S = fX2_doOthersSuit_h3 5000 f (xtw S) 28 x (nI (k + 1)) S := by
        unfold fX2_doOthersSuit_b36
        rw [nI_1 k]
      by_cases hw : nI k = x
      · refine Or.inr ⟨(), nx (by rw [decide_eq_true hw]; rfl), ?_⟩
        show fX2_doOthersSuit_h3 5000 (f + 1) (xtw S) 28 x (nI k) S = _
        rw [hF, if_pos hw, hF3]
      · cases hs : suB n wh wn sn (sq Z d h qs (Z 5 k) k) k with
        | true =>
          refine Or.inr ⟨(), nx (by rw [hs, Bool.or_true]), ?_⟩
          show fX2_doOthersSuit_h3 5000 (f + 1) (xtw S) 28 x (nI k) S = _
          rw [hF, if_neg hw, hs]
          exact hF3
        | false =>
          refine Or.inl ⟨(0, S), ?_, ?_⟩
          · show fX2_doOthersSuit_h3 5000 (f + 1) (xtw S) 28 x (nI k) S = _
            rw [hF, if_neg hw, hs]
            rfl
          · unfold otB
            rw [alB_f hk1 (by rw [decide_eq_false hw, hs]; rfl)]
            rfl
  obtain ⟨r, r1, rfl⟩ := main
  exact r1
end
end

/-! part 76.guess -/
section
section
variable {Z S S0 : gS} {d : Int32} {h g n v : Nat} {qs : Nat → qT} {wh wn : Nat → Nat} {sn : Nat → Int32}
theorem wsN_lt {j t : Nat} (Zk : tOK Z) : wsN Z d h qs j t < 8 := by
  have z6 := Zk.2.1.2
  unfold wsN
  by_cases q : tn1 Z = 0
  · rw [q]; exact (by decide : 0 < 8)
  · have := gtN_lt (v := fun g => sq Z d h qs (upE (Z 5) (j / 10) (nI (j % 10)) g) g t) (tn1 Z) (by omega)
    omega
theorem upE_ok {e : Nat → Int32} (K : qsOK Z e qs) (hv : v ≤ 9) : qsOK Z (upE e g (nI v)) qs := by
  refine ⟨K.1, K.2.1, fun g' hg' => ?_⟩
  unfold upE
  by_cases q : g' = g
  · rw [if_pos q]; exact ⟨v, hv, rfl⟩
  · rw [if_neg q]; exact K.2.2 g' hg'
theorem x_mark17 {r2 : Nat → Int32 → Int32 → gS → Option (Int32 × gS)} {t : Nat} (Zk : tOK Z) (C : cSit 21 Z S h d qs) (K : qsOK Z (Z 5) qs) (R : rwX Z d h qs S (tn1 Z)) (hg : g < tn1 Z) (hv : v ≤ 9) (R7 : ∀ t, t ≤ 20 → S 70 t = sq Z d h qs (nI v) g t) (ht : t ≤ 20) : fX2_markWorst_h17 5000 r2 5000 (xtw S) (nI g) (nI t) 0 (-1) 0 S = fX2_markWorst_b73 5000 r2 (xtw S) (nI g) (nI t) (nI (wsN Z d h qs (10 * g + v) t)) S := by
  have z6 := Zk.2.1.2
  have x5 : S (xtw S) 5 = nI (tn1 Z) := (C.1 0 5 (by omega) (by omega)).trans Zk.2.1.1
  have K' := upE_ok (g := g) K hv
  obtain ⟨V, hV⟩ : ∃ z : Nat → Int32, z = fun g' => sq Z d h qs (upE (Z 5) g (nI v) g') g' t := ⟨_, rfl⟩
  have eW : wsN Z d h qs (10 * g + v) t = gtN V (tn1 Z) := by
    unfold wsN
    rw [show (10 * g + v) / 10 = g by omega, show (10 * g + v) % 10 = v by omega, hV]
  have hV0 : ∀ g', g' < tn1 Z → ¬ V g' ≤ -1 := by
    intro g' hg' hh
    have hq := trj_ok (Z := Z) (d := d) (wf := wetZ Z) (h := h) (K'.1 g' hg') (K'.2.2 g' hg') t
    have h0 : 0 ≤ V g' := by
      rw [hV]
      exact hq.1.1
    exact absurd (Int32.le_trans h0 hh) (by decide)
  have main : ∀ (m k f : Nat) (y : Int32), k + m = tn1 Z → m < f → y = (if k = 0 then -1 else V (gtN V k)) → fX2_markWorst_h17 5000 r2 f (xtw S) (nI g) (nI t) (nI (gtN V k)) y (nI k) S = fX2_markWorst_b73 5000 r2 (xtw S) (nI g) (nI t) (nI (gtN V (tn1 Z))) S := by
    intro m
    induction m with
    | zero =>
      intro k f y hk hf hy
      obtain ⟨f, rfl⟩ : ∃ f', f = f' + 1 := ⟨f - 1, by omega⟩
      obtain rfl : k = tn1 Z := by omega
      show fX2_markWorst_b17 5000 r2 _ (xtw S) (nI g) (nI t) _ y (nI (tn1 Z)) S = _
      unfold fX2_markWorst_b17
      rw [x5, if_pos (nI_le (Nat.le_refl _) (by omega))]
    | succ m ih =>
      intro k f y hk hf hy
      obtain ⟨f, rfl⟩ : ∃ f', f = f' + 1 := ⟨f - 1, by omega⟩
      have hF : fX2_markWorst_h17 5000 r2 (f + 1) (xtw S) (nI g) (nI t) (nI (gtN V k)) y (nI k) S = if V k ≤ y then fX2_markWorst_h17 5000 r2 f (xtw S) (nI g) (nI t) (nI (gtN V k)) y (nI (k + 1)) S else fX2_markWorst_h17 5000 r2 f (xtw S) (nI g) (nI t) (nI k) (V k) (nI (k + 1)) S := by
        have b50 : fX2_markWorst_b50 5000 r2 (fX2_markWorst_h17 5000 r2 f) (xtw S) (nI g) (nI t) (nI (gtN V k)) y (nI k) (V k) S = if V k ≤ y then fX2_markWorst_h17 5000 r2 f (xtw S) (nI g) (nI t) (nI (gtN V k)) y (nI (k + 1)) S else fX2_markWorst_h17 5000 r2 f (xtw S) (nI g) (nI t) (nI k) (V k) (nI (k + 1)) S := by
          unfold fX2_markWorst_b50 fX2_markWorst_b59 fX2_markWorst_b67
          rw [nI_1 k]
        rw [← b50]
        show fX2_markWorst_b17 5000 r2 (fX2_markWorst_h17 5000 r2 f) (xtw S) (nI g) (nI t) (nI (gtN V k)) y (nI k) S = _
        unfold fX2_markWorst_b17
        rw [x5, if_neg (nI_ge (by omega) (by omega))]
        unfold fX2_markWorst_b26
        by_cases q : k = g
        · have eV : V k = S 70 t := by
            rw [hV, R7 t ht, q]
            show sq Z d h qs (upE (Z 5) g (nI v) g) g t = _
            unfold upE
            rw [if_pos rfl]
          rw [q, if_pos rfl]
          unfold fX2_markWorst_b32
          rw [chk_t (inb_t (by omega) (by decide)), nI_clamp (n := t) (by omega), ← eV, q]
        · have eV : V k = S (63 + 1 + k) t := by
            rw [hV, R k (by omega) t ht]
            show sq Z d h qs (upE (Z 5) g (nI v) k) k t = _
            unfold upE
            rw [if_neg q]
          rw [if_neg (fun z => q ((nI_eq (by omega) (by omega)).mp z))]
          unfold fX2_markWorst_b41
          dsimp only [lt]
          rw [chk_t (inb_t (by omega) (by decide)), chk_t (inb_t (by omega) (by decide)), nI_clamp (n := t) (by omega), nI_clamp (n := k) (by omega), ← eV]
      rw [hF]
      by_cases h0 : k = 0
      · subst h0
        rw [hy, if_pos rfl, if_neg (hV0 0 (by omega))]
        exact ih 1 f (V 0) (by omega) (by omega) rfl
      · have e1 : gtN V (k + 1) = if V k ≤ V (gtN V k) then gtN V k else k := if_neg h0
        rw [if_neg h0] at hy
        have := ih (k + 1) f (V (gtN V (k + 1))) (by omega) (by omega) (if_neg (Nat.succ_ne_zero k)).symm
        by_cases h1 : V k ≤ V (gtN V k)
        · rw [if_pos h1] at e1
          rw [hy, if_pos h1]
          rw [e1] at this
          exact this
        · rw [if_neg h1] at e1
          rw [hy, if_neg h1]
          rw [e1] at this
          exact this
  rw [eW]
  exact main (tn1 Z) 0 5000 (-1) (by omega) (by omega) rfl
theorem x_markWorst {A : Nat → Nat} (Zk : tOK Z) (C : cSit 21 Z S h d qs) (K : qsOK Z (Z 5) qs) (R : rwX Z d h qs S (tn1 Z)) (hg : g < tn1 Z) (hv : v ≤ 9) (R7 : ∀ t, t ≤ 20 → S 70 t = sq Z d h qs (nI v) g t) (hA : ∀ t, A t < 256) (RA : ∀ t, 1 ≤ t → t ≤ 20 → S 71 t = nI (A t)) : ∃ S', fX2_markWorst 5000 (xtw S) (nI g) S = some (0, S') ∧ (∀ i j, i ≠ 71 → S' i j = S i j) ∧ ∀ t, 1 ≤ t → t ≤ 20 → S' 71 t = nI (A t ||| 2 ^ wsN Z d h qs (10 * g + v) t) := by
  have z6 := Zk.2.1.2
  have hT := xtw_cases (S := S)
  have main : Gv (fX2_markWorst_h2 5000 5000 (xtw S) (nI g) 1 S) (fun r => r.1 = 0 ∧ (∀ i j, i ≠ 71 → r.2 i j = S i j) ∧ ∀ t, 1 ≤ t → t ≤ 20 → r.2 71 t = nI (A t ||| 2 ^ wsN Z d h qs (10 * g + v) t)) := by
    refine loopG (A := gS) (fun f k S1 => fX2_markWorst_h2 5000 f (xtw S) (nI g) (nI (k + 1)) S1) (fun k S1 => (∀ i j, i ≠ 71 → S1 i j = S i j) ∧ (∀ t, 1 ≤ t → t ≤ k → S1 71 t = nI (A t ||| 2 ^ wsN Z d h qs (10 * g + v) t)) ∧ ∀ t, k < t → t ≤ 20 → S1 71 t = nI (A t)) _ 20 ?_ ?_ 20 0 S 5000 (by omega) ⟨fun _ _ _ => rfl, fun t a b => absurd a (by omega), fun t a b => RA t (by omega) b⟩ (by omega)
    · rintro f S1 ⟨i1, i2, i3⟩
      refine ⟨(0, S1), ?_, rfl, i1, i2⟩
      show fX2_markWorst_b2 5000 _ (xtw S) (nI g) (nI 21) S1 = _
      unfold fX2_markWorst_b2
      rw [if_pos (by decide)]
      rfl
    · rintro f k S1 hk ⟨i1, i2, i3⟩
      have s1 : xSame S S1 := fun i j hij => i1 i j (fun q => by rw [q] at hij; cases hij)
      have ht : xtw S1 = xtw S := by unfold xtw; rw [s1 0 7 rfl]
      have h17 := x_mark17 (r2 := fX2_markWorst_h2 5000 f) (t := k + 1) Zk (C.sm s1) K (fun g' a t b => (i1 _ _ (by omega)).trans (R g' a t b)) hg hv (fun t b => (i1 70 t (by decide)).trans (R7 t b)) (by omega)
      rw [ht] at h17
      refine Or.inr ⟨sU S1 71 (k + 1) (nI (A (k + 1) ||| 2 ^ wsN Z d h qs (10 * g + v) (k + 1))), ⟨fun i j q => ?_, fun t a b => ?_, fun t a b => ?_⟩, ?_⟩
      · rw [sU_ne q]; exact i1 i j q
      · rw [sU_ap]
        by_cases q : t = k + 1
        · rw [if_pos ⟨rfl, q⟩, q]
        · rw [if_neg (fun z => q z.2)]
          exact i2 t a (by omega)
      · rw [sU_ap, if_neg (by omega)]
        exact i3 t (by omega) b
      · show fX2_markWorst_b2 5000 (fX2_markWorst_h2 5000 f) (xtw S) (nI g) (nI (k + 1)) S1 = _
        unfold fX2_markWorst_b2
        rw [if_neg (show ¬ (20 : Int32) < nI (k + 1) from nI_nlt (a := 20) (by omega) (by decide))]
        unfold fX2_markWorst_b8
        rw [h17]
        unfold fX2_markWorst_b73
        dsimp only [lt]
        rw [chk_t (inb_t (by omega) (by decide)), chk_t (inb_t (by omega) (by decide)), nI_clamp (n := k + 1) (by omega), i3 (k + 1) (by omega) (by omega), (or_all (A (k + 1)) (hA _) (wsN Z d h qs (10 * g + v) (k + 1)) (wsN_lt Zk)).1, nI_1 (k + 1)]
  obtain ⟨⟨w, S'⟩, r1, r2, r3⟩ := main
  dsimp only at r2 r3
  subst r2
  exact ⟨S', r1, r3⟩
end
end

/-! part 77.guess -/
section
section
variable {Z S S0 : gS} {d : Int32} {h g n v : Nat} {qs : Nat → qT} {wh wn : Nat → Nat} {sn : Nat → Int32}
/-- what the class knows behind the first j guesses -/
def wjX (Z : gS) (d : Int32) (h : Nat) (qs : Nat → qT) (F : Nat → Bool) (j : Nat) (S : gS) : Prop := S 62 3 = nI (cntB F j) ∧ S 62 4 = (if cntB F j = 0 then -1 else nI (fI F 0)) ∧ ∀ t, 1 ≤ t → t ≤ 20 → S 71 t = nI (orN (fun i => wsN Z d h qs (fI F i) t) (cntB F j))
theorem seX.sm {S S' : gS} (X : seX n wh wn sn S) (hn : n ≤ 8) (s : xSame S S') : seX n wh wn sn S' := by
  refine ⟨(s 28 3 rfl).trans X.1, fun i hi => ?_⟩
  obtain ⟨a, b, c⟩ := X.2 i hi
  exact ⟨(s 29 i rfl).trans a, (s 30 i rfl).trans b, (s 31 i rfl).trans c⟩
/-- what stays while one guess is tried -/
def tgX (Z : gS) (d : Int32) (h : Nat) (qs : Nat → qT) (al : Int32) (S0 S : gS) : Prop := xSame S0 S ∧ rwX Z d h qs S (tn1 Z) ∧ S 62 5 = al
theorem x_tryGreeds {al : Int32} {F : Nat → Bool} (hF : F = fitB Z d h qs n wh wn sn) (Zk : tOK Z) (C : cSit 21 Z S0 h d qs) (K : qsOK Z (Z 5) qs) (hk : seK Z n wh wn) (X : seX n wh wn sn S0) (h9 : h ≤ 999) (hg : g < tn1 Z) (ho : otB Z d h qs n wh wn sn (nI g) = true) (tg : tgX Z d h qs al S0 S) (wj : wjX Z d h qs F (10 * g) S) : ∃ S', fX2_tryGreeds 5000 (xtw S0) 20 (nI g) S = some (0, S') ∧ tgX Z d h qs al S0 S' ∧ wjX Z d h qs F (10 * (g + 1)) S' := by
  have z6 := Zk.2.1.2
  have main : Gv (fX2_tryGreeds_h3 5000 5000 (xtw S0) 20 (nI g) 0 S) (fun r => r.1 = 0 ∧ tgX Z d h qs al S0 r.2 ∧ wjX Z d h qs F (10 * g + 10) r.2) := by
    refine loopG (A := gS) (fun f k S1 => fX2_tryGreeds_h3 5000 f (xtw S0) 20 (nI g) (nI k) S1) (fun k S1 => tgX Z d h qs al S0 S1 ∧ wjX Z d h qs F (10 * g + k) S1) _ 10 ?_ ?_ 10 0 S 5000 (by omega) ⟨tg, wj⟩ (by omega)
    · rintro f S1 ⟨i1, i2⟩
      refine ⟨(0, S1), ?_, rfl, i1, i2⟩
      show fX2_tryGreeds_b3 5000 _ (xtw S0) 20 (nI g) (nI 10) S1 = _
      unfold fX2_tryGreeds_b3
      rw [if_pos (by decide)]
      rfl
    · rintro f v S1 hv ⟨⟨i1, i2, i3⟩, j1, j2, j3⟩
      have C1 := C.sm i1
      have ht : xtw S1 = xtw S0 := by unfold xtw; rw [i1 0 7 rfl]
      have hTc := xtw_cases (S := S0)
      have c60 := cntB_le (c := F) (10 * g + v)
      have eF : F (10 * g + v) = (!(decide (nI v = Z 5 g)) && suB n wh wn sn (sq Z d h qs (nI v) g) g) := by
        rw [hF]
        unfold fitB
        rw [show (10 * g + v) / 10 = g by omega, show (10 * g + v) % 10 = v by omega, ho, Bool.true_and]
      have eC : cntB F (10 * g + (v + 1)) = cntB F (10 * g + v) + if F (10 * g + v) = true then 1 else 0 := rfl
      refine Or.inr ?_
      have hF0 : fX2_tryGreeds_h3 5000 (f + 1) (xtw S0) 20 (nI g) (nI v) S1 = if nI v = Z 5 g then fX2_tryGreeds_h3 5000 f (xtw S0) 20 (nI g) (nI (v + 1)) S1 else fX2_tryGreeds_b22 5000 (fX2_tryGreeds_h3 5000 f) (xtw S0) 20 (nI g) (nI v) S1 := by
        show fX2_tryGreeds_b3 5000 (fX2_tryGreeds_h3 5000 f) (xtw S0) 20 (nI g) (nI v) S1 = _
        unfold fX2_tryGreeds_b3
        rw [if_neg (show ¬ (9 : Int32) < nI v from nI_nlt (a := 9) (by omega) (by decide))]
        unfold fX2_tryGreeds_b10
        rw [chk_t (inb_t (by omega) (by decide)), nI_clamp (n := g) (by omega), ← ht]
        simp only [C1.1 5 g (by omega) (by omega)]
        unfold fX2_tryGreeds_b108
        rw [nI_1 v]
      have b108 : ∀ S', fX2_tryGreeds_b108 5000 (fX2_tryGreeds_h3 5000 f) (xtw S0) 20 (nI g) (nI v) S' = fX2_tryGreeds_h3 5000 f (xtw S0) 20 (nI g) (nI (v + 1)) S' := by
        intro S'
        unfold fX2_tryGreeds_b108
        rw [nI_1 v]
      by_cases hq : nI v = Z 5 g
      · rw [decide_eq_true hq] at eF
        have eF : F (10 * g + v) = false := eF
        rw [if_neg (by rw [eF]; decide)] at eC
        refine ⟨S1, ⟨⟨i1, i2, i3⟩, ?_⟩, ?_⟩
        · unfold wjX
          rw [eC]
          exact ⟨j1, j2, j3⟩
        · show fX2_tryGreeds_h3 5000 (f + 1) (xtw S0) 20 (nI g) (nI v) S1 = _
          rw [hF0, if_pos hq]
      · rw [decide_eq_false hq] at eF
        have eF : F (10 * g + v) = suB n wh wn sn (sq Z d h qs (nI v) g) g := eF
        obtain ⟨X1, b1, b2, b3⟩ := x_begin (N := 5000) (nd := 21) (Or.inl rfl) Zk C1 hg (by omega)
        rw [ht] at b1
        obtain ⟨X2, hX2⟩ : ∃ z, z = sU X1 51 0 (nI v) := ⟨_, rfl⟩
        have s2 : oSame xWk S1 X2 := by rw [hX2]; exact b3.up rfl
        have W2 : wkA X2 (nI v) d (nI h) (qs g) := by
          rw [hX2]
          unfold wkA at b2 ⊢
          refine ⟨by rw [sU_ap, if_pos ⟨rfl, rfl⟩], ?_⟩
          rw [sU_ap, if_neg (by omega), sU_ap, if_neg (by omega), sU_ap, if_neg (by omega), sU_ap, if_neg (by omega), sU_ap, if_neg (by omega), sU_ap, if_neg (by omega)]
          exact b2.2
        have x2 : xSame S0 X2 := i1.tr (xWk.same s2)
        have C2 := C.sm x2
        have ht2 : xtw X2 = xtw S0 := by unfold xtw; rw [x2 0 7 rfl]
        have tx2 : tXz (xtw S0) Z X2 := by rw [← ht2]; exact C2.1
        obtain ⟨X3, f1, f2, f3⟩ := x_follow (T1 := 70) (by decide) (by decide) Zk tx2 ht2 (K.1 g hg) ⟨v, by omega, rfl⟩ W2 h9
        have k3 : ∀ i j, xWk i j = false → i ≠ 70 → X3 i j = S1 i j := by
          intro i j a b
          rw [f3 i j (by show (xWk i j || i == 70) = false; rw [a, beq_false_of_ne b]; rfl)]
          exact s2 i j a
        have x3 : xSame S0 X3 := by
          refine i1.tr (fun i j hij => k3 i j ?_ (fun q => by rw [q] at hij; cases hij))
          refine xWk_f ?_
          refine ⟨?_, ?_, ?_, ?_, ?_⟩ <;> intro q <;> rw [q] at hij <;> cases hij
        have C3 := C.sm x3
        have ht3 : xtw X3 = xtw S0 := by unfold xtw; rw [x3 0 7 rfl]
        have R3 : rwX Z d h qs X3 (tn1 Z) := fun g' a t b => (k3 _ t (xWk_f (by omega)) (by omega)).trans (i2 g' a t b)
        have R7 : ∀ t, t ≤ 20 → X3 70 t = sq Z d h qs (nI v) g t := f2
        have hsu := x_suits (T1 := 70) (R := sq Z d h qs (nI v) g) (g := g) (by decide) (by omega) hk z6 (X.sm hk.1 x3) R7
        have hF1 : fX2_tryGreeds_h3 5000 (f + 1) (xtw S0) 20 (nI g) (nI v) S1 = if iv (F (10 * g + v)) = 0 then fX2_tryGreeds_b108 5000 (fX2_tryGreeds_h3 5000 f) (xtw S0) 20 (nI g) (nI v) X3 else fX2_tryGreeds_b64 5000 (fX2_tryGreeds_h3 5000 f) (xtw S0) 20 (nI g) (nI v) X3 := by
          rw [hF0, if_neg hq, eF]
          unfold fX2_tryGreeds_b22
          dsimp only [lt]
          rw [bnd_t (show fX10_begin 5000 (xtw S0) (20 + 1) (nI g) S1 = _ from b1)]
          dsimp only
          rw [← hX2, bnd_t f1]
          dsimp only
          rw [bnd_t (show fX5_suits 5000 (20 + 8) (nI g) 70 X3 = _ from hsu)]
        have j1' : X3 62 3 = nI (cntB F (10 * g + v)) := (k3 62 3 rfl (by decide)).trans j1
        have j2' : X3 62 4 = (if cntB F (10 * g + v) = 0 then -1 else nI (fI F 0)) := (k3 62 4 rfl (by decide)).trans j2
        have j3' : ∀ t, 1 ≤ t → t ≤ 20 → X3 71 t = nI (orN (fun i => wsN Z d h qs (fI F i) t) (cntB F (10 * g + v))) := fun t a b => (k3 71 t rfl (by decide)).trans (j3 t a b)
        have i3' : X3 62 5 = al := (k3 62 5 rfl (by decide)).trans i3
        cases hs : F (10 * g + v) with
        | false =>
          rw [if_neg (by rw [hs]; decide)] at eC
          refine ⟨X3, ⟨⟨x3, R3, i3'⟩, ?_⟩, ?_⟩
          · unfold wjX
            rw [eC]
            exact ⟨j1', j2', j3'⟩
          · show fX2_tryGreeds_h3 5000 (f + 1) (xtw S0) 20 (nI g) (nI v) S1 = _
            rw [hF1, hs]
            exact b108 X3
        | true =>
          rw [if_pos hs] at eC
          have hat : fI F (cntB F (10 * g + v)) = 10 * g + v := fI_at (by omega) hs
          obtain ⟨X4, hX4⟩ : ∃ z, z = sU (sU X3 62 3 (nI (cntB F (10 * g + v) + 1))) 62 4 (nI (fI F 0)) := ⟨_, rfl⟩
          have k4 : ∀ i j, i ≠ 62 → X4 i j = X3 i j := by
            intro i j q
            rw [hX4, sU_ne q, sU_ne q]
          have x4 : xSame X3 X4 := fun i j hij => k4 i j (fun q => by rw [q] at hij; cases hij)
          have ht4 : xtw X4 = xtw S0 := by unfold xtw; rw [x4 0 7 rfl, x3 0 7 rfl]
          obtain ⟨X5, w1, w2, w3⟩ := x_markWorst (S := X4) (A := fun t => orN (fun i => wsN Z d h qs (fI F i) t) (cntB F (10 * g + v))) Zk (C3.sm x4) K (fun g' a t b => (k4 _ t (by omega)).trans (R3 g' a t b)) hg (by omega) (fun t b => (k4 70 t (by decide)).trans (R7 t b)) (fun t => orN_lt _ (fun i _ => wsN_lt Zk)) (fun t a b => (k4 71 t (by decide)).trans (j3' t a b))
          rw [ht4] at w1
          have x5 : xSame S0 X5 := (x3.tr x4).tr (fun i j hij => w2 i j (fun q => by rw [q] at hij; cases hij))
          refine ⟨X5, ⟨⟨x5, fun g' a t b => ?_, ?_⟩, ?_, ?_, fun t a b => ?_⟩, ?_⟩
          · rw [w2 _ t (by omega), k4 _ t (by omega)]
            exact R3 g' a t b
          · rw [w2 62 5 (by decide), hX4, sU_ap, if_neg (by omega), sU_ap, if_neg (by omega)]
            exact i3'
          · rw [w2 62 3 (by decide), hX4, sU_ap, if_neg (by omega), sU_ap, if_pos ⟨rfl, rfl⟩, eC]
          · rw [w2 62 4 (by decide), hX4, sU_ap, if_pos ⟨rfl, rfl⟩, eC, if_neg (by omega)]
          · rw [w3 t a b, eC]
            show _ = nI (orN _ _ ||| 2 ^ wsN Z d h qs (fI F (cntB F (10 * g + v))) t)
            rw [hat]
          · show fX2_tryGreeds_h3 5000 (f + 1) (xtw S0) 20 (nI g) (nI v) S1 = _
            rw [hF1, hs]
            show fX2_tryGreeds_b64 5000 (fX2_tryGreeds_h3 5000 f) (xtw S0) 20 (nI g) (nI v) X3 = _
            have b98 : ∀ x, x = nI (fI F 0) → fX2_tryGreeds_b98 5000 (fX2_tryGreeds_h3 5000 f) (xtw S0) 20 (nI g) (nI v) x (sU X3 62 3 (nI (cntB F (10 * g + v) + 1))) = fX2_tryGreeds_h3 5000 f (xtw S0) 20 (nI g) (nI (v + 1)) X5 := by
              intro x hx
              unfold fX2_tryGreeds_b98
              dsimp only [lt]
              rw [hx, ← hX4, bnd_t w1]
              exact b108 X5
            unfold fX2_tryGreeds_b64
            dsimp only [lt]
            rw [j1', nI_1 (cntB F (10 * g + v))]
            have e4 : sU X3 62 3 (nI (cntB F (10 * g + v) + 1)) 62 4 = (if cntB F (10 * g + v) = 0 then -1 else nI (fI F 0)) := by
              rw [sU_ap, if_neg (by omega)]
              exact j2'
            rw [e4]
            by_cases h0 : cntB F (10 * g + v) = 0
            · rw [if_pos h0, if_pos rfl]
              refine b98 _ ?_
              rw [h0] at hat
              rw [hat, show (10 : Int32) = nI 10 from rfl, pk_mul, nI_add]
            · have h60 : fI F 0 ≤ 60 := by
                unfold fI
                rcases fsK_sp (ok := fun j => F j && decide (cntB F j = 0)) 60 with ⟨a1, -, -⟩ | ⟨a1, -⟩ <;> omega
              rw [if_neg h0, if_neg (nI_nem (by omega))]
              refine b98 _ ?_
              rw [e4, if_neg h0]
  obtain ⟨⟨w, S'⟩, r1, r2, r3⟩ := main
  dsimp only at r2 r3
  subst r2
  exact ⟨S', r1, r3⟩
end
end

/-! part 78.weigh -/
section
theorem x_weigh_0 {N k1 k2 : Nat} {S : gS} : fX2_weigh N k1 k2 S = fX2_weigh_h13 N N k1 k2 0 (sU (sU S 62 3 0) 62 4 (-1)) := rfl
section
variable {Z S S0 : gS} {d : Int32} {h g n v : Nat} {qs : Nat → qT} {wh wn : Nat → Nat} {sn : Nat → Int32}
theorem x_weigh {F : Nat → Bool} (hF : F = fitB Z d h qs n wh wn sn) (Zk : tOK Z) (C : cSit 21 Z S0 h d qs) (K : qsOK Z (Z 5) qs) (hk : seK Z n wh wn) (X : seX n wh wn sn S0) (h9 : h ≤ 999) : ∃ S', fX2_weigh 5000 (xtw S0) 20 S0 = some (0, S') ∧ xSame S0 S' ∧ S' 62 5 = iv (otB Z d h qs n wh wn sn (-1)) ∧ wjX Z d h qs F (10 * tn1 Z) S' := by
  have z6 := Zk.2.1.2
  have hTc := xtw_cases (S := S0)
  have xx : ∀ S1, xSame S0 S1 → S1 (xtw S0) 5 = nI (tn1 Z) ∧ xtw S1 = xtw S0 := by
    intro S1 s
    have ht : xtw S1 = xtw S0 := by unfold xtw; rw [s 0 7 rfl]
    refine ⟨?_, ht⟩
    rw [← ht]
    exact ((C.sm s).1 0 5 (by omega) (by omega)).trans Zk.2.1.1
  -- behind the rows: each guild's guesses
  have third : ∀ S1, tgX Z d h qs (iv (otB Z d h qs n wh wn sn (-1))) S0 S1 → wjX Z d h qs F 0 S1 → Gv (fX2_weigh_h92 5000 5000 (xtw S0) 20 0 S1) (fun r => r.1 = 0 ∧ tgX Z d h qs (iv (otB Z d h qs n wh wn sn (-1))) S0 r.2 ∧ wjX Z d h qs F (10 * tn1 Z) r.2) := by
    intro S1 t1 w1
    refine loopG (A := gS) (fun f g S => fX2_weigh_h92 5000 f (xtw S0) 20 (nI g) S) (fun g S => tgX Z d h qs (iv (otB Z d h qs n wh wn sn (-1))) S0 S ∧ wjX Z d h qs F (10 * g) S) _ (tn1 Z) ?_ ?_ (tn1 Z) 0 S1 5000 (by omega) ⟨t1, w1⟩ (by omega)
    · rintro f S ⟨i1, i2⟩
      refine ⟨(0, S), ?_, rfl, i1, i2⟩
      show fX2_weigh_b92 5000 _ (xtw S0) 20 (nI (tn1 Z)) S = _
      unfold fX2_weigh_b92
      rw [(xx S i1.1).1, if_pos (nI_le (Nat.le_refl _) (by omega))]
      rfl
    · rintro f g S hg ⟨i1, i2⟩
      have ho := x_others (x := nI g) Zk (C.sm i1.1) hk (X.sm hk.1 i1.1) i1.2.1
      rw [(xx S i1.1).2] at ho
      have hF0 : fX2_weigh_h92 5000 (f + 1) (xtw S0) 20 (nI g) S = if iv (otB Z d h qs n wh wn sn (nI g)) = 0 then fX2_weigh_h92 5000 f (xtw S0) 20 (nI (g + 1)) S else fX2_weigh_b115 5000 (fX2_weigh_h92 5000 f) (xtw S0) 20 (nI g) S := by
        show fX2_weigh_b92 5000 (fX2_weigh_h92 5000 f) (xtw S0) 20 (nI g) S = _
        unfold fX2_weigh_b92
        rw [(xx S i1.1).1, if_neg (nI_ge hg (by omega))]
        unfold fX2_weigh_b101
        rw [bnd_t (show fX2_doOthersSuit 5000 (xtw S0) (20 + 8) (nI g) S = _ from ho)]
        unfold fX2_weigh_b124
        rw [nI_1 g]
      refine Or.inr ?_
      cases hot : otB Z d h qs n wh wn sn (nI g) with
      | false =>
        refine ⟨S, ⟨i1, ?_⟩, ?_⟩
        · have no : ∀ m, m ≤ 10 → cntB F (10 * g + m) = cntB F (10 * g) := by
            intro m
            induction m with
            | zero => intro _; rfl
            | succ m ih =>
              intro hm
              show cntB F (10 * g + m) + (if F (10 * g + m) = true then 1 else 0) = _
              have : F (10 * g + m) = false := by
                rw [hF]
                unfold fitB
                rw [show (10 * g + m) / 10 = g by omega, hot, Bool.false_and, Bool.and_false]
              rw [this, ih (by omega)]
              rfl
          have e10 := no 10 (by omega)
          unfold wjX
          rw [show 10 * (g + 1) = 10 * g + 10 by omega, e10]
          exact i2
        · show fX2_weigh_h92 5000 (f + 1) (xtw S0) 20 (nI g) S = _
          rw [hF0, hot]
          rfl
      | true =>
        obtain ⟨S2, a1, a2, a3⟩ := x_tryGreeds hF Zk C K hk X h9 hg hot i1 i2
        refine ⟨S2, ⟨a2, a3⟩, ?_⟩
        show fX2_weigh_h92 5000 (f + 1) (xtw S0) 20 (nI g) S = _
        rw [hF0, hot]
        show fX2_weigh_b115 5000 (fX2_weigh_h92 5000 f) (xtw S0) 20 (nI g) S = _
        unfold fX2_weigh_b115
        rw [bnd_t a1]
        unfold fX2_weigh_b124
        rw [nI_1 g]
  have second : ∀ S1, xSame S0 S1 → wjX Z d h qs F 0 S1 → Gv (fX2_weigh_h37 5000 5000 (xtw S0) 20 0 S1) (fun r => r.1 = 0 ∧ tgX Z d h qs (iv (otB Z d h qs n wh wn sn (-1))) S0 r.2 ∧ wjX Z d h qs F (10 * tn1 Z) r.2) := by
    intro S1 t1 w1
    refine loopG (A := gS) (fun f g S => fX2_weigh_h37 5000 f (xtw S0) 20 (nI g) S) (fun g S => xSame S0 S ∧ rwX Z d h qs S g ∧ wjX Z d h qs F 0 S) _ (tn1 Z) ?_ ?_ (tn1 Z) 0 S1 5000 (by omega) ⟨t1, fun g q => absurd q (by omega), w1⟩ (by omega)
    · rintro f S ⟨i1, i2, i3⟩
      have ho := x_others (x := -1) Zk (C.sm i1) hk (X.sm hk.1 i1) i2
      rw [(xx S i1).2] at ho
      have k6 : ∀ i j, ¬ (i = 62 ∧ j = 5) → sU S 62 5 (iv (otB Z d h qs n wh wn sn (-1))) i j = S i j := fun i j q => by rw [sU_ap, if_neg q]
      have e : fX2_weigh_h37 5000 (f + 1) (xtw S0) 20 (nI (tn1 Z)) S = fX2_weigh_h92 5000 5000 (xtw S0) 20 0 (sU S 62 5 (iv (otB Z d h qs n wh wn sn (-1)))) := by
        show fX2_weigh_b37 5000 _ (xtw S0) 20 (nI (tn1 Z)) S = _
        unfold fX2_weigh_b37
        rw [(xx S i1).1, if_pos (nI_le (Nat.le_refl _) (by omega))]
        unfold fX2_weigh_b75
        dsimp only [lt]
        rw [bnd_t (show fX2_doOthersSuit 5000 (xtw S0) (20 + 8) (-1) S = _ from ho), chk_t (zb_iv)]
      show Gv (fX2_weigh_h37 5000 (f + 1) (xtw S0) 20 (nI (tn1 Z)) S) _
      rw [e]
      refine third _ ⟨i1.up rfl, fun g' a t b => ?_, ?_⟩ ⟨?_, ?_, fun t a b => ?_⟩
      · rw [k6 _ _ (by omega)]; exact i2 g' a t b
      · rw [sU_ap, if_pos ⟨rfl, rfl⟩]
      · rw [k6 _ _ (by omega)]; exact i3.1
      · rw [k6 _ _ (by omega)]; exact i3.2.1
      · rw [k6 _ _ (by omega)]; exact i3.2.2 t a b
    · rintro f g S hg ⟨i1, i2, i3⟩
      have C1 := C.sm i1
      have ht := (xx S i1).2
      obtain ⟨X1, b1, b2, b3⟩ := x_begin (N := 5000) (nd := 21) (Or.inl rfl) Zk C1 hg (by omega)
      rw [ht] at b1
      have x1 : xSame S0 X1 := i1.tr (xWk.same b3)
      have ht1 := (xx X1 x1).2
      have tx1 : tXz (xtw S0) Z X1 := by rw [← ht1]; exact (C.sm x1).1
      obtain ⟨X3, f1, f2, f3⟩ := x_follow (T1 := 63 + 1 + g) (by omega) (xN_g g (by omega)) Zk tx1 ht1 (K.1 g hg) (K.2.2 g hg) b2 h9
      have k3 : ∀ i j, xWk i j = false → i ≠ 63 + 1 + g → X3 i j = S i j := by
        intro i j a b
        rw [f3 i j (by show (xWk i j || i == 63 + 1 + g) = false; rw [a, beq_false_of_ne b]; rfl)]
        exact b3 i j a
      refine Or.inr ⟨X3, ⟨i1.tr (fun i j hij => k3 i j ?_ ?_), fun g' a t b => ?_, ?_, ?_, fun t a b => ?_⟩, ?_⟩
      · refine xWk_f ?_
        refine ⟨?_, ?_, ?_, ?_, ?_⟩ <;> intro q <;> rw [q] at hij <;> cases hij
      · intro q
        rcases (show g = 0 ∨ g = 1 ∨ g = 2 ∨ g = 3 ∨ g = 4 ∨ g = 5 by omega) with r | r | r | r | r | r <;> rw [q, r] at hij <;> cases hij
      · by_cases q : g' = g
        · rw [q]
          exact f2 t b
        · rw [k3 _ t (xWk_f (by omega)) (by omega)]
          exact i2 g' (by omega) t b
      · rw [k3 62 3 rfl (by omega)]; exact i3.1
      · rw [k3 62 4 rfl (by omega)]; exact i3.2.1
      · rw [k3 71 t rfl (by omega)]; exact i3.2.2 t a b
      · show fX2_weigh_b37 5000 (fX2_weigh_h37 5000 f) (xtw S0) 20 (nI g) S = _
        unfold fX2_weigh_b37
        rw [(xx S i1).1, if_neg (nI_ge hg (by omega))]
        unfold fX2_weigh_b46
        dsimp only [lt]
        rw [bnd_t (show fX10_begin 5000 (xtw S0) (20 + 1) (nI g) S = _ from b1), chk_t (inb_t (by omega) (by decide)), nI_clamp (n := g) (by omega)]
        dsimp only
        rw [bnd_t f1]
        dsimp only
        rw [nI_1 g]
  have first : ∀ S1, xSame S0 S1 → S1 62 3 = 0 → S1 62 4 = -1 → Gv (fX2_weigh_h13 5000 5000 (xtw S0) 20 0 S1) (fun r => r.1 = 0 ∧ tgX Z d h qs (iv (otB Z d h qs n wh wn sn (-1))) S0 r.2 ∧ wjX Z d h qs F (10 * tn1 Z) r.2) := by
    intro S1 t1 w1 w2
    refine loopG (A := gS) (fun f k S => fX2_weigh_h13 5000 f (xtw S0) 20 (nI k) S) (fun k S => xSame S0 S ∧ S 62 3 = 0 ∧ S 62 4 = -1 ∧ ∀ t, t < k → S 71 t = 0) _ 21 ?_ ?_ 21 0 S1 5000 (by omega) ⟨t1, w1, w2, fun g q => absurd q (by omega)⟩ (by omega)
    · rintro f S ⟨i1, i2, i3, i4⟩
      have e : fX2_weigh_h13 5000 (f + 1) (xtw S0) 20 (nI 21) S = fX2_weigh_h37 5000 5000 (xtw S0) 20 0 S := by
        show fX2_weigh_b13 5000 _ (xtw S0) 20 (nI 21) S = _
        unfold fX2_weigh_b13
        rw [if_pos (by decide)]
        rfl
      show Gv (fX2_weigh_h13 5000 (f + 1) (xtw S0) 20 (nI 21) S) _
      rw [e]
      exact second S i1 ⟨i2, i3, fun t a b => i4 t (by omega)⟩
    · rintro f k S hk' ⟨i1, i2, i3, i4⟩
      refine Or.inr ⟨sU S 71 k 0, ⟨i1.up rfl, ?_, ?_, fun t a => ?_⟩, ?_⟩
      · rw [sU_ne (by decide)]; exact i2
      · rw [sU_ne (by decide)]; exact i3
      · rw [sU_ap]
        by_cases q : t = k
        · rw [if_pos ⟨rfl, q⟩]
        · rw [if_neg (fun z => q z.2)]
          exact i4 t (by omega)
      · show fX2_weigh_b13 5000 (fX2_weigh_h13 5000 f) (xtw S0) 20 (nI k) S = _
        unfold fX2_weigh_b13
        rw [if_neg (show ¬ (20 : Int32) < nI k from nI_nlt (a := 20) (by omega) (by decide))]
        unfold fX2_weigh_b20
        dsimp only [lt]
        rw [chk_t (inb_t (by omega) (by decide)), nI_clamp (n := k) (by omega), nI_1 k]
  obtain ⟨⟨w, S'⟩, r1, r2, r3, r4⟩ := first (sU (sU S0 62 3 0) 62 4 (-1)) ((xSame.rf.up rfl).up rfl) (by rw [sU_ap, if_neg (by omega), sU_ap, if_pos ⟨rfl, rfl⟩]) (by rw [sU_ap, if_pos ⟨rfl, rfl⟩])
  dsimp only at r2 r3 r4
  subst r2
  refine ⟨S', ?_, r3.1, r3.2.2, r4⟩
  rw [x_weigh_0]
  exact r1
end
end

/-! part 79.seen -/
section
noncomputable def m5 (i j : Nat) : Bool := i == 42 || i == 43 || i == 51 || (i == 99 && (j == 44 || j == 45))
theorem m5_f {i j : Nat} (h : m5 i j = false) : i ≠ 42 ∧ i ≠ 43 ∧ i ≠ 51 ∧ ¬ (i = 99 ∧ (j = 44 ∨ j = 45)) := by
  unfold m5 at h
  simp only [Bool.or_eq_false_iff, Bool.and_eq_false_iff, beq_eq_false_iff_ne] at h
  omega
theorem m5.same {S S' : gS} (s : oSame m5 S S') : mSame S S' := by
  intro i j h
  refine s i j ?_
  cases hh : m5 i j with
  | false => rfl
  | true =>
    exfalso
    unfold m5 at hh
    simp only [Bool.or_eq_true, Bool.and_eq_true, beq_iff_eq] at hh
    rcases hh with ((r | r) | r) | ⟨r, r2 | r2⟩
    · rw [r] at h; cases h
    · rw [r] at h; cases h
    · rw [r] at h; cases h
    · rw [r, r2] at h; cases h
    · rw [r, r2] at h; cases h
noncomputable def mxN (wn : Nat → Nat) : Nat → Nat
  | 0 => 0
  | k + 1 => if mxN wn k < wn k then wn k else mxN wn k
theorem mxN_le {wn : Nat → Nat} : ∀ k, (∀ i, i < k → wn i ≤ 20) → mxN wn k ≤ 20 ∧ ∀ i, i < k → wn i ≤ mxN wn k := by
  intro k
  induction k with
  | zero => intro _; exact ⟨Nat.zero_le _, fun i h => absurd h (by omega)⟩
  | succ k ih =>
    intro h
    obtain ⟨a, b⟩ := ih (fun i hi => h i (by omega))
    have hk := h k (by omega)
    have e : mxN wn (k + 1) = if mxN wn k < wn k then wn k else mxN wn k := rfl
    have key : ∀ z, mxN wn k ≤ z → wn k ≤ z → ∀ i, i < k + 1 → wn i ≤ z := by
      intro z z1 z2 i hi
      by_cases q : i = k
      · rw [q]; exact z2
      · have := b i (by omega)
        omega
    by_cases q : mxN wn k < wn k
    · rw [if_pos q] at e
      rw [e]
      exact ⟨hk, key _ (by omega) (Nat.le_refl _)⟩
    · rw [if_neg q] at e
      rw [e]
      exact ⟨a, key _ (Nat.le_refl _) (by omega)⟩
section
variable {Z S : gS} {d : Int32} {h g n v : Nat} {e : Nat → Int32} {qs : Nat → qT} {wh wn : Nat → Nat} {sn : Nat → Int32}
theorem m_seen54 {t : Nat} {x1 : Int32} {r42 : Int32 → Int32 → Int32 → gS → Option (Int32 × gS)} (z6 : tn1 Z ≤ 6) (hk : seK Z n wh wn) (X : seM n wh wn sn S) (ht : t ≤ 20) : fX12_isAsSeen_b51 5000 r42 x1 1 (nI t) S = fX12_isAsSeen_b112 5000 r42 x1 (iv (alB (fun i => !(decide (wn i = t)) || decide (S 32 (wh i) = sn i)) n)) (nI t) S := by
  have k8 := hk.1
  have main : ∀ (m k f : Nat), k + m = n → m < f → fX12_isAsSeen_h54 5000 r42 f x1 (iv (alB (fun i => !(decide (wn i = t)) || decide (S 32 (wh i) = sn i)) k)) (nI t) (nI k) S = fX12_isAsSeen_b112 5000 r42 x1 (iv (alB (fun i => !(decide (wn i = t)) || decide (S 32 (wh i) = sn i)) n)) (nI t) S := by
    intro m
    induction m with
    | zero =>
      intro k f hkm hf
      obtain ⟨f, rfl⟩ : ∃ f', f = f' + 1 := ⟨f - 1, by omega⟩
      obtain rfl : k = n := by omega
      show fX12_isAsSeen_b54 5000 r42 _ x1 _ (nI t) (nI k) S = _
      unfold fX12_isAsSeen_b54
      rw [X.1, if_pos (nI_le (Nat.le_refl _) (by omega))]
    | succ m ih =>
      intro k f hkm hf
      obtain ⟨f, rfl⟩ : ∃ f', f = f' + 1 := ⟨f - 1, by omega⟩
      obtain ⟨x1', x2, x3⟩ := X.2 k (by omega)
      obtain ⟨y1, y2⟩ := hk.2 k (by omega)
      have hn := ih (k + 1) f (by omega) (by omega)
      have eA : alB (fun i => !(decide (wn i = t)) || decide (S 32 (wh i) = sn i)) (k + 1) = (alB (fun i => !(decide (wn i = t)) || decide (S 32 (wh i) = sn i)) k && (!(decide (wn k = t)) || decide (S 32 (wh k) = sn k))) := rfl
      rw [eA] at hn
      show fX12_isAsSeen_b54 5000 r42 (fX12_isAsSeen_h54 5000 r42 f) x1 _ (nI t) (nI k) S = _
      unfold fX12_isAsSeen_b54
      rw [X.1, if_neg (nI_ge (by omega) (by omega))]
      unfold fX12_isAsSeen_b63
      have b104 : fX12_isAsSeen_b104 5000 r42 (fX12_isAsSeen_h54 5000 r42 f) x1 (nI t) (nI k) S = fX12_isAsSeen_h54 5000 r42 f x1 (iv false) (nI t) (nI (k + 1)) S := by
        unfold fX12_isAsSeen_b104 fX12_isAsSeen_b105
        rw [nI_1 k]
        rfl
      have b100 : fX12_isAsSeen_b100 5000 r42 (fX12_isAsSeen_h54 5000 r42 f) x1 (nI t) (nI k) S = fX12_isAsSeen_h54 5000 r42 f x1 (iv true) (nI t) (nI (k + 1)) S := by
        unfold fX12_isAsSeen_b100 fX12_isAsSeen_b105
        rw [nI_1 k]
        rfl
      cases hb : alB (fun i => !(decide (wn i = t)) || decide (S 32 (wh i) = sn i)) k with
      | false =>
        rw [hb, Bool.false_and] at hn
        show fX12_isAsSeen_b104 5000 r42 (fX12_isAsSeen_h54 5000 r42 f) x1 (nI t) (nI k) S = _
        rw [b104]
        exact hn
      | true =>
        rw [hb, Bool.true_and] at hn
        show fX12_isAsSeen_b67 5000 r42 (fX12_isAsSeen_h54 5000 r42 f) x1 (nI t) (nI k) S = _
        unfold fX12_isAsSeen_b67
        rw [chk_t (inb_t (by omega) (by decide)), nI_clamp (n := k) (by omega), x2]
        by_cases q : wn k = t
        · rw [decide_eq_true q] at hn
          rw [q, if_pos rfl]
          unfold fX12_isAsSeen_b78
          rw [chk_t (inb_t (by omega) (by decide)), nI_clamp (n := k) (by omega), x1', chk_t (inb_t (by omega) (by decide)), chk_t (inb_t (by omega) (by decide)), nI_clamp (n := wh k) (by omega), x3]
          by_cases q2 : S 32 (wh k) = sn k
          · rw [decide_eq_true q2] at hn
            rw [if_pos q2, b100]
            exact hn
          · rw [decide_eq_false q2] at hn
            rw [if_neg q2, b104]
            exact hn
        · rw [decide_eq_false q] at hn
          rw [if_neg (fun z => q ((nI_eq (by omega) (by omega)).mp z)), b100]
          exact hn
  exact main n 0 5000 (by omega) (by omega)
theorem m_isAsSeen (Zk : tOK Z) (K : qsH Z qs) (M : mSit Z S h d e qs) (w41 : S 99 41 = -1) (h9 : h ≤ 999) (hk : seK Z n wh wn) (X : seM n wh wn sn S) : ∃ S', fX12_isAsSeen 5000 S = some (iv (asB Z d h qs n wh wn sn e), S') ∧ oSame m5 S S' := by
  have z6 := Zk.2.1.2
  have k8 := hk.1
  obtain ⟨mx20, mxle⟩ := mxN_le (wn := wn) n (fun i hi => (hk.2 i hi).2)
  obtain ⟨S2, p1, p2, p3⟩ := q_pk (N := 5000) (S1 := S) (nd := 51) (Or.inr rfl) (by decide)
  have s2 : mSame S S2 := fun i j hij => p2 i j (fun q => by rw [q] at hij; cases hij)
  have M2 := M.on s2
  have w2 : S2 99 41 = -1 := (p2 99 41 (by decide)).trans w41
  have X2 : seM n wh wn sn S2 := ⟨(p2 99 40 (by decide)).trans X.1, fun i hi => by
    obtain ⟨a, b, c⟩ := X.2 i hi
    exact ⟨(p2 48 i (by decide)).trans a, (p2 49 i (by decide)).trans b, (p2 50 i (by decide)).trans c⟩⟩
  have bT : ∀ t, alB (fun i => !(decide (wn i < t)) || decide (sq Z d h qs (e (wh i)) (wh i) (wn i) = sn i)) n = true ↔ ∀ i, i < n → wn i < t → sq Z d h qs (e (wh i)) (wh i) (wn i) = sn i := by
    intro t
    rw [alB_t]
    refine ⟨fun a i hi hl => ?_, fun a i hi => ?_⟩
    · have := a i hi
      rw [decide_eq_true hl] at this
      exact of_decide_eq_true this
    · by_cases hl : wn i < t
      · rw [decide_eq_true (a i hi hl), Bool.or_true]
      · rw [decide_eq_false hl]; rfl
  have aT : asB Z d h qs n wh wn sn e = true ↔ ∀ i, i < n → sq Z d h qs (e (wh i)) (wh i) (wn i) = sn i := by
    unfold asB
    rw [alB_t]
    exact ⟨fun a i hi => of_decide_eq_true (a i hi), fun a i hi => decide_eq_true (a i hi)⟩
  have fin : ∀ (b : Bool) (S3 : gS), b = asB Z d h qs n wh wn sn e → oSame mHo S2 S3 → Gv (fX12_isAsSeen_b122 5000 (iv b) S3) (fun r => r.1 = iv (asB Z d h qs n wh wn sn e) ∧ oSame m5 S r.2) := by
    intro b S3 hb s3
    obtain ⟨S4, u1, u2⟩ := p3 S3 (fun j => s3 51 j rfl)
    refine ⟨(iv b, S4), ?_, by rw [hb], fun i j hij => ?_⟩
    · unfold fX12_isAsSeen_b122
      rw [bnd_t u1, chk_t zb_iv]
    · show S4 i j = S i j
      rw [u2 i j]
      obtain ⟨m1, m2, m3, m4⟩ := m5_f hij
      by_cases q : mPk i j = true
      · rw [if_pos q]
      · rw [if_neg q, s3 i j ?_, p2 i j m3]
        rw [mPk_t] at q
        cases hh : mHo i j with
        | false => rfl
        | true =>
          exfalso
          unfold mHo at hh
          simp only [Bool.or_eq_true, Bool.and_eq_true, beq_iff_eq, decide_eq_true_iff] at hh
          omega
  have outer : Gv (fX12_isAsSeen_h42 5000 5000 (nI (mxN wn n)) 1 0 S2) (fun r => r.1 = iv (asB Z d h qs n wh wn sn e) ∧ oSame m5 S r.2) := by
    have e0 : alB (fun i => !(decide (wn i < 0)) || decide (sq Z d h qs (e (wh i)) (wh i) (wn i) = sn i)) n = true := (bT 0).mpr (fun i hi hl => absurd hl (by omega))
    rw [show (1 : Int32) = iv (alB (fun i => !(decide (wn i < 0)) || decide (sq Z d h qs (e (wh i)) (wh i) (wn i) = sn i)) n) by rw [e0]; rfl]
    refine loopG (A := gS) (fun f t S3 => fX12_isAsSeen_h42 5000 f (nI (mxN wn n)) (iv (alB (fun i => !(decide (wn i < t)) || decide (sq Z d h qs (e (wh i)) (wh i) (wn i) = sn i)) n)) (nI t) S3) (fun t S3 => mSit Z S3 (h + t) d e (fun g => trj Z (e g) d (wetZ Z) h (qs g) t) ∧ oSame mHo S2 S3) _ (mxN wn n + 1) ?_ ?_ (mxN wn n + 1) 0 S2 5000 (by omega) ⟨M2, oSame.rf⟩ (by omega)
    · rintro f S3 ⟨i1, i2⟩
      show Gv (fX12_isAsSeen_b42 5000 _ _ _ (nI (mxN wn n + 1)) S3) _
      unfold fX12_isAsSeen_b42
      rw [if_pos (nI_lt (by omega) (by omega))]
      refine fin _ S3 ?_ i2
      rw [Bool.eq_iff_iff, bT, aT]
      exact ⟨fun a i hi => a i hi (by have := mxle i hi; omega), fun a i hi _ => a i hi⟩
    · rintro f t S3 ht ⟨i1, i2⟩
      have hF : fX12_isAsSeen_h42 5000 (f + 1) (nI (mxN wn n)) (iv (alB (fun i => !(decide (wn i < t)) || decide (sq Z d h qs (e (wh i)) (wh i) (wn i) = sn i)) n)) (nI t) S3 = fX12_isAsSeen_b47 5000 (fX12_isAsSeen_h42 5000 f) (nI (mxN wn n)) (iv (alB (fun i => !(decide (wn i < t)) || decide (sq Z d h qs (e (wh i)) (wh i) (wn i) = sn i)) n)) (nI t) S3 := by
        show fX12_isAsSeen_b42 5000 (fX12_isAsSeen_h42 5000 f) _ _ (nI t) S3 = _
        unfold fX12_isAsSeen_b42
        rw [if_neg (nI_nlt (by omega) (by omega))]
      have hb := bT t
      cases hc : alB (fun i => !(decide (wn i < t)) || decide (sq Z d h qs (e (wh i)) (wh i) (wn i) = sn i)) n with
      | false =>
        refine Or.inl ?_
        rw [hc] at hF
        show Gv (fX12_isAsSeen_h42 5000 (f + 1) (nI (mxN wn n)) (iv false) (nI t) S3) _
        rw [hF]
        show Gv (fX12_isAsSeen_b122 5000 (iv false) S3) _
        refine fin false S3 ?_ i2
        cases ha : asB Z d h qs n wh wn sn e with
        | false => rfl
        | true =>
          exfalso
          have := hb.mpr (fun i hi _ => aT.mp ha i hi)
          rw [hc] at this
          cases this
      | true =>
        rw [hc] at hb
        have X3 : seM n wh wn sn S3 := ⟨(i2 99 40 rfl).trans X2.1, fun i hi => by
          obtain ⟨a, b, c⟩ := X2.2 i hi
          exact ⟨(i2 48 i rfl).trans a, (i2 49 i rfl).trans b, (i2 50 i rfl).trans c⟩⟩
        have h54 := m_seen54 (x1 := nI (mxN wn n)) (r42 := fX12_isAsSeen_h42 5000 f) (t := t) z6 hk X3 (by omega)
        obtain ⟨S4, r1, r2, -, r4⟩ := m_step1 (N := 5000) Zk (K.tr (h := h) (d := d) (wf := wetZ Z) (e := e) t) (by omega) (by decide) i1 ((i2 99 41 rfl).trans w2)
        refine Or.inr ⟨S4, ⟨r2, i2.tr r4⟩, ?_⟩
        rw [hc] at hF
        show fX12_isAsSeen_h42 5000 (f + 1) (nI (mxN wn n)) (iv true) (nI t) S3 = _
        rw [hF]
        show fX12_isAsSeen_b51 5000 (fX12_isAsSeen_h42 5000 f) (nI (mxN wn n)) 1 (nI t) S3 = _
        rw [h54]
        unfold fX12_isAsSeen_b112
        rw [bnd_t r1, nI_1 t]
        have eB : alB (fun i => !(decide (wn i = t)) || decide (S3 32 (wh i) = sn i)) n = alB (fun i => !(decide (wn i < t + 1)) || decide (sq Z d h qs (e (wh i)) (wh i) (wn i) = sn i)) n := by
          rw [Bool.eq_iff_iff, bT, alB_t]
          have hb' := hb.mp rfl
          refine ⟨fun a i hi hl => ?_, fun a i hi => ?_⟩
          · by_cases q : wn i = t
            · have := a i hi
              rw [decide_eq_true q] at this
              have := of_decide_eq_true this
              rw [(i1.2.2.2.2 (wh i) (hk.2 i hi).1).1, ← q] at this
              exact this
            · exact hb' i hi (by omega)
          · by_cases q : wn i = t
            · have := a i hi (by omega)
              rw [decide_eq_true q, (i1.2.2.2.2 (wh i) (hk.2 i hi).1).1, ← q]
              exact decide_eq_true this
            · rw [decide_eq_false q]; rfl
        rw [eB]
  have inner : ∀ (m k f : Nat), k + m = n → m < f → fX12_isAsSeen_h13 5000 f (nI (mxN wn k)) (nI k) S2 = fX12_isAsSeen_h42 5000 5000 (nI (mxN wn n)) 1 0 S2 := by
    intro m
    induction m with
    | zero =>
      intro k f hkm hf
      obtain ⟨f, rfl⟩ : ∃ f', f = f' + 1 := ⟨f - 1, by omega⟩
      obtain rfl : k = n := by omega
      show fX12_isAsSeen_b13 5000 _ _ (nI k) S2 = _
      unfold fX12_isAsSeen_b13
      rw [X2.1, if_pos (nI_le (Nat.le_refl _) (by omega))]
      rfl
    | succ m ih =>
      intro k f hkm hf
      obtain ⟨f, rfl⟩ : ∃ f', f = f' + 1 := ⟨f - 1, by omega⟩
      obtain ⟨x1', x2, x3⟩ := X2.2 k (by omega)
      obtain ⟨y1, y2⟩ := hk.2 k (by omega)
      obtain ⟨l1, l2⟩ := mxN_le (wn := wn) k (fun i hi => (hk.2 i (by omega)).2)
      rw [← ih (k + 1) f (by omega) (by omega)]
      show fX12_isAsSeen_b13 5000 (fX12_isAsSeen_h13 5000 f) _ (nI k) S2 = fX12_isAsSeen_h13 5000 f (nI (if mxN wn k < wn k then wn k else mxN wn k)) (nI (k + 1)) S2
      unfold fX12_isAsSeen_b13
      rw [X2.1, if_neg (nI_ge (by omega) (by omega))]
      unfold fX12_isAsSeen_b21
      rw [chk_t (inb_t (by omega) (by decide)), nI_clamp (n := k) (by omega), x2, nI_1 k]
      by_cases q : mxN wn k < wn k
      · rw [if_pos q, if_pos (nI_lt q (by omega))]
      · rw [if_neg q, if_neg (nI_nlt (by omega) (by omega))]
  obtain ⟨⟨b, S'⟩, r1, r2, r3⟩ := outer
  dsimp only at r2 r3
  refine ⟨S', ?_, r3⟩
  unfold fX12_isAsSeen fX12_isAsSeen_b0
  rw [bnd_t p1, ← r2]
  exact (inner n 0 5000 (by omega) (by omega)).trans r1
end
end

/-! part 80.fits -/
section
theorem mSit.gr {Z S : gS} {h g : Nat} {d x : Int32} {e : Nat → Int32} {qs : Nat → qT} (M : mSit Z S h d e qs) : mSit Z (sU S 18 g x) h d (upE e g x) qs := by
  obtain ⟨m1, m2, m3, m4, m5⟩ := M
  refine ⟨m1.on (fun i j h1 h2 => sU_n (by omega)), fun g' hg' => ?_, by rw [sU_n (by omega)]; exact m3, by rw [sU_n (by omega)]; exact m4, fun g' hg' => ?_⟩
  · rw [sU_ap]
    unfold upE
    by_cases q : g' = g
    · rw [if_pos ⟨rfl, q⟩, if_pos q]
    · rw [if_neg (fun z => q z.2), if_neg q]
      exact m2 g' hg'
  · rw [sU_ne (by decide), sU_ne (by decide), sU_ne (by decide), sU_ne (by decide)]
    exact m5 g' hg'
noncomputable def m6 (i j : Nat) : Bool := m5 i j || i == 52 || (i == 99 && j == 54)
theorem m6_f {i j : Nat} (h : m6 i j = false) : m5 i j = false ∧ i ≠ 52 ∧ ¬ (i = 99 ∧ j = 54) := by
  unfold m6 at h
  rw [Bool.or_eq_false_iff, Bool.or_eq_false_iff] at h
  refine ⟨h.1.1, fun q => ?_, fun q => ?_⟩
  · have := h.1.2
    rw [q] at this
    cases this
  · have := h.2
    rw [q.1, q.2] at this
    cases this
theorem m6_n {i j : Nat} (h : mScr i j = false) : m6 i j = false := by
  cases hh : m6 i j with
  | false => rfl
  | true =>
    exfalso
    unfold m6 m5 at hh
    simp only [Bool.or_eq_true, Bool.and_eq_true, beq_iff_eq] at hh
    rcases hh with ((((r | r) | r) | ⟨r, r2 | r2⟩) | r) | ⟨r, r2⟩
    · rw [r] at h; cases h
    · rw [r] at h; cases h
    · rw [r] at h; cases h
    · rw [r, r2] at h; cases h
    · rw [r, r2] at h; cases h
    · rw [r] at h; cases h
    · rw [r, r2] at h; cases h
theorem m6.same {S S' : gS} (s : oSame m6 S S') : mSame S S' := fun i j h => s i j (m6_n h)
section
variable {Z S S1 : gS} {d : Int32} {h g n v : Nat} {qs : Nat → qT} {wh wn : Nat → Nat} {sn : Nat → Int32}
def tfM (F : Nat → Bool) (j : Nat) (S : gS) : Prop := S 99 54 = nI (cntB F j) ∧ ∀ i, i < cntB F j → S 52 i = nI (fI F i)
/-- all but the greed of g is as it was -/
def gsM (g : Nat) (S1 S : gS) : Prop := ∀ i j, m6 i j = false → ¬ (i = 18 ∧ j = g) → S i j = S1 i j
theorem gsM.sit {x : Int32} {S1 S : gS} (s : gsM g S1 S) (M : mSit Z S1 h d (Z 5) qs) : mSit Z (sU S 18 g x) h d (upE (Z 5) g x) qs := by
  refine (M.gr (g := g) (x := x)).on (fun i j hij => ?_)
  rw [sU_ap, sU_ap]
  by_cases q : i = 18 ∧ j = g
  · rw [if_pos q, if_pos q]
  · rw [if_neg q, if_neg q]
    exact s i j (m6_n hij) q
theorem m_fits26 {F : Nat → Bool} {r7 : Int32 → gS → Option (Int32 × gS)} (hF : F = fitB Z d h qs n wh wn sn) (Zk : tOK Z) (M : mSit Z S1 h d (Z 5) qs) (K : qsOK Z (Z 5) qs) (w41 : S1 99 41 = -1) (hk : seK Z n wh wn) (X : seM n wh wn sn S1) (h9 : h ≤ 999) (hg : g < tn1 Z) (s : oSame m6 S1 S) (tf : tfM F (10 * g) S) : ∃ S', oSame m6 S1 S' ∧ tfM F (10 * (g + 1)) S' ∧ fX12_tellFits_b17 5000 r7 (nI g) S = r7 (nI (g + 1)) S' := by
  have z6 := Zk.2.1.2
  have g18 : S1 18 g = Z 5 g := M.2.1 g hg
  have main : ∀ (m v f : Nat) (S : gS), v + m = 10 → m < f → gsM g S1 S → tfM F (10 * g + v) S → ∃ S', oSame m6 S1 S' ∧ tfM F (10 * (g + 1)) S' ∧ fX12_tellFits_h26 5000 r7 f (nI g) (Z 5 g) (nI v) S = r7 (nI (g + 1)) S' := by
    intro m
    induction m with
    | zero =>
      intro v f S hv hf s tf
      obtain ⟨f, rfl⟩ : ∃ f', f = f' + 1 := ⟨f - 1, by omega⟩
      obtain rfl : v = 10 := by omega
      refine ⟨sU S 18 g (Z 5 g), fun i j hij => ?_, ⟨?_, fun i hi => ?_⟩, ?_⟩
      · rw [sU_ap]
        by_cases q : i = 18 ∧ j = g
        · rw [if_pos q, q.1, q.2]; exact g18.symm
        · rw [if_neg q]; exact s i j hij q
      · rw [sU_ne (by decide)]; exact tf.1
      · rw [sU_ne (by decide)]; exact tf.2 i hi
      · show fX12_tellFits_b26 5000 r7 _ (nI g) (Z 5 g) (nI 10) S = _
        unfold fX12_tellFits_b26
        rw [if_pos (by decide)]
        unfold fX12_tellFits_b85
        dsimp only [lt]
        rw [chk_t (inb_t (by omega) (by decide)), nI_clamp (n := g) (by omega), nI_1 g]
    | succ m ih =>
      intro v f S hv hf s tf
      obtain ⟨f, rfl⟩ : ∃ f', f = f' + 1 := ⟨f - 1, by omega⟩
      obtain ⟨S2, hS2⟩ : ∃ z, z = sU S 18 g (nI v) := ⟨_, rfl⟩
      have M2 : mSit Z S2 h d (upE (Z 5) g (nI v)) qs := by rw [hS2]; exact s.sit M
      have s2 : gsM g S1 S2 := fun i j a b => by rw [hS2, sU_n b]; exact s i j a b
      have tf2 : tfM F (10 * g + v) S2 := by
        rw [hS2]
        refine ⟨?_, fun i hi => ?_⟩
        · rw [sU_ne (by decide)]; exact tf.1
        · rw [sU_ne (by decide)]; exact tf.2 i hi
      have c60 := cntB_le (c := F) (10 * g + v)
      have eC : cntB F (10 * g + (v + 1)) = cntB F (10 * g + v) + if F (10 * g + v) = true then 1 else 0 := rfl
      have eF : F (10 * g + v) = (!(decide (nI v = Z 5 g)) && asB Z d h qs n wh wn sn (upE (Z 5) g (nI v))) := by
        rw [hF, asB_one Zk hg hk]
        unfold fitB
        rw [show (10 * g + v) / 10 = g by omega, show (10 * g + v) % 10 = v by omega]
      have hF0 : fX12_tellFits_h26 5000 r7 (f + 1) (nI g) (Z 5 g) (nI v) S = if nI v = Z 5 g then fX12_tellFits_h26 5000 r7 f (nI g) (Z 5 g) (nI (v + 1)) S2 else fX12_tellFits_b44 5000 r7 (fX12_tellFits_h26 5000 r7 f) (nI g) (Z 5 g) (nI v) S2 := by
        show fX12_tellFits_b26 5000 r7 (fX12_tellFits_h26 5000 r7 f) (nI g) (Z 5 g) (nI v) S = _
        unfold fX12_tellFits_b26
        rw [if_neg (show ¬ (9 : Int32) < nI v from nI_nlt (a := 9) (by omega) (by decide))]
        unfold fX12_tellFits_b32
        dsimp only [lt]
        rw [chk_t (inb_t (by omega) (by decide)), nI_clamp (n := g) (by omega), ← hS2]
        unfold fX12_tellFits_b79
        rw [nI_1 v]
      have b79 : ∀ S', fX12_tellFits_b79 5000 r7 (fX12_tellFits_h26 5000 r7 f) (nI g) (Z 5 g) (nI v) S' = fX12_tellFits_h26 5000 r7 f (nI g) (Z 5 g) (nI (v + 1)) S' := by
        intro S'
        unfold fX12_tellFits_b79
        rw [nI_1 v]
      have stay : ∀ S', F (10 * g + v) = false → tfM F (10 * g + v) S' → tfM F (10 * g + (v + 1)) S' := by
        intro S' a b
        rw [if_neg (by rw [a]; decide)] at eC
        unfold tfM
        rw [eC]
        exact b
      by_cases hq : nI v = Z 5 g
      · rw [decide_eq_true hq] at eF
        rw [hF0, if_pos hq]
        exact ih (v + 1) f S2 (by omega) (by omega) s2 (stay S2 eF tf2)
      · rw [decide_eq_false hq] at eF
        have eF : F (10 * g + v) = asB Z d h qs n wh wn sn (upE (Z 5) g (nI v)) := eF
        have X2 : seM n wh wn sn S2 := ⟨(s2 99 40 rfl (by omega)).trans X.1, fun i hi => by
          obtain ⟨a, b, c⟩ := X.2 i hi
          exact ⟨(s2 48 i rfl (by omega)).trans a, (s2 49 i rfl (by omega)).trans b, (s2 50 i rfl (by omega)).trans c⟩⟩
        obtain ⟨S3, a1, a2⟩ := m_isAsSeen Zk K.h M2 ((s2 99 41 rfl (by omega)).trans w41) h9 hk X2
        have s3 : gsM g S1 S3 := fun i j a b => (a2 i j (m6_f a).1).trans (s2 i j a b)
        have tf3 : tfM F (10 * g + v) S3 := ⟨(a2 99 54 rfl).trans tf2.1, fun i hi => (a2 52 i rfl).trans (tf2.2 i hi)⟩
        have hF1 : fX12_tellFits_h26 5000 r7 (f + 1) (nI g) (Z 5 g) (nI v) S = if iv (F (10 * g + v)) = 0 then fX12_tellFits_h26 5000 r7 f (nI g) (Z 5 g) (nI (v + 1)) S3 else fX12_tellFits_b54 5000 r7 (fX12_tellFits_h26 5000 r7 f) (nI g) (Z 5 g) (nI v) S3 := by
          rw [hF0, if_neg hq]
          unfold fX12_tellFits_b44
          rw [bnd_t a1, eF]
          unfold fX12_tellFits_b51
          rw [b79]
        cases hs : F (10 * g + v) with
        | false =>
          rw [hF1, hs]
          exact ih (v + 1) f S3 (by omega) (by omega) s3 (stay S3 hs tf3)
        | true =>
          rw [if_pos hs] at eC
          have hat : fI F (cntB F (10 * g + v)) = 10 * g + v := fI_at (by omega) hs
          rw [hF1, hs]
          have b54 : fX12_tellFits_b54 5000 r7 (fX12_tellFits_h26 5000 r7 f) (nI g) (Z 5 g) (nI v) S3 = fX12_tellFits_h26 5000 r7 f (nI g) (Z 5 g) (nI (v + 1)) (sU (sU S3 52 (cntB F (10 * g + v)) (nI (10 * g + v))) 99 54 (nI (cntB F (10 * g + v) + 1))) := by
            unfold fX12_tellFits_b54
            dsimp only [lt]
            rw [tf3.1, chk_t (inb_t (by omega) (by decide)), nI_clamp (n := cntB F (10 * g + v)) (by omega), show (10 : Int32) = nI 10 from rfl, pk_mul, nI_add, sU_ne (by decide), tf3.1, nI_1 (cntB F (10 * g + v)), b79]
          show ∃ S', _ ∧ _ ∧ fX12_tellFits_b54 5000 r7 (fX12_tellFits_h26 5000 r7 f) (nI g) (Z 5 g) (nI v) S3 = _
          rw [b54]
          refine ih (v + 1) f _ (by omega) (by omega) (fun i j a b => ?_) ⟨?_, fun i hi => ?_⟩
          · have := m6_f a
            rw [sU_n (by omega), sU_n (by omega)]
            exact s3 i j a b
          · rw [sU_ap, if_pos ⟨rfl, rfl⟩, eC]
          · rw [sU_ne (by decide), sU_ap]
            by_cases q : i = cntB F (10 * g + v)
            · rw [if_pos ⟨rfl, q⟩, q, hat]
            · rw [if_neg (fun z => q z.2)]
              exact tf3.2 i (by omega)
  have e : fX12_tellFits_b17 5000 r7 (nI g) S = fX12_tellFits_h26 5000 r7 5000 (nI g) (Z 5 g) 0 S := by
    unfold fX12_tellFits_b17
    rw [chk_t (inb_t (by omega) (by decide)), nI_clamp (n := g) (by omega), s 18 g rfl, g18]
  rw [e]
  exact main 10 0 5000 S (by omega) (by omega) (fun i j a _ => s i j a) tf
theorem m_tellFits {F : Nat → Bool} (hF : F = fitB Z d h qs n wh wn sn) (Zk : tOK Z) (M : mSit Z S1 h d (Z 5) qs) (K : qsOK Z (Z 5) qs) (w41 : S1 99 41 = -1) (hk : seK Z n wh wn) (X : seM n wh wn sn S1) (h9 : h ≤ 999) : ∃ S', fX12_tellFits 5000 S1 = some (0, S') ∧ oSame m6 S1 S' ∧ tfM F (10 * tn1 Z) S' := by
  have z6 := Zk.2.1.2
  have main : ∀ (m g f : Nat) (S : gS), g + m = tn1 Z → m < f → oSame m6 S1 S → tfM F (10 * g) S → ∃ S', fX12_tellFits_h7 5000 f (nI g) S = some (0, S') ∧ oSame m6 S1 S' ∧ tfM F (10 * tn1 Z) S' := by
    intro m
    induction m with
    | zero =>
      intro g f S hg hf s tf
      obtain ⟨f, rfl⟩ : ∃ f', f = f' + 1 := ⟨f - 1, by omega⟩
      obtain rfl : g = tn1 Z := by omega
      refine ⟨S, ?_, s, tf⟩
      show fX12_tellFits_b7 5000 _ (nI (tn1 Z)) S = _
      unfold fX12_tellFits_b7
      rw [s 5 1 rfl, show S1 5 1 = nI (tn1 Z) from M.1.2.1, if_pos (nI_le (Nat.le_refl _) (by omega))]
      rfl
    | succ m ih =>
      intro g f S hg hf s tf
      obtain ⟨f, rfl⟩ : ∃ f', f = f' + 1 := ⟨f - 1, by omega⟩
      obtain ⟨S2, a1, a2, a3⟩ := m_fits26 (r7 := fX12_tellFits_h7 5000 f) hF Zk M K w41 hk X h9 (by omega) s tf
      obtain ⟨S', b1, b2, b3⟩ := ih (g + 1) f S2 (by omega) (by omega) a1 a2
      refine ⟨S', ?_, b2, b3⟩
      show fX12_tellFits_b7 5000 (fX12_tellFits_h7 5000 f) (nI g) S = _
      unfold fX12_tellFits_b7
      rw [s 5 1 rfl, show S1 5 1 = nI (tn1 Z) from M.1.2.1, if_neg (nI_ge (by omega) (by omega)), a3]
      exact b1
  exact main (tn1 Z) 0 5000 (sU S1 99 54 0) (by omega) (by omega) (oSame.rf.up rfl) ⟨by rw [sU_ap, if_pos ⟨rfl, rfl⟩]; rfl, fun i hi => absurd hi (Nat.not_lt_zero i)⟩
end
end

/-! part 81.greedy -/
section
theorem jSeen_of {SX S1 Z : gS} (hJ : JJ SX S1) (z6 : tn1 Z ≤ 6) (x5 : SX (xtw SX) 5 = nI (tn1 Z)) : ∃ n wh wn sn, seK Z n wh wn ∧ seX n wh wn sn SX ∧ seM n wh wn sn S1 := by
  obtain ⟨n0, n1, hT, hN, hI, hP, hM⟩ := hJ
  obtain ⟨s, A, ⟨q, g1, g2, g3, g4⟩, t⟩ := hN
  have e1 : n1 = tn1 Z := by
    have := hT.2.1.2.2
    exact (nI_eq (by omega) (by omega)).mp (hT.2.1.1.symm.trans x5)
  subst e1
  refine ⟨q, fun i => (SX 29 i).toNatClampNeg, fun i => (SX 30 i).toNatClampNeg, fun i => SX 31 i, ⟨g1, fun i hi => ?_⟩, ⟨g2, fun i hi => ?_⟩, ⟨g3, fun i hi => ?_⟩⟩
  · obtain ⟨⟨a, a1, a2, a3⟩, ⟨b, b1, b2, b3⟩, -⟩ := g4 i hi
    have a2 : SX 29 i = nI a := a2
    have b2 : SX 30 i = nI b := b2
    dsimp only
    rw [a2, b2, nI_clamp (by omega), nI_clamp (by omega)]
    exact ⟨a1, b1⟩
  · obtain ⟨⟨a, a1, a2, a3⟩, ⟨b, b1, b2, b3⟩, -⟩ := g4 i hi
    have a2 : SX 29 i = nI a := a2
    have b2 : SX 30 i = nI b := b2
    dsimp only
    rw [a2, b2, nI_clamp (by omega), nI_clamp (by omega)]
    exact ⟨rfl, rfl, rfl⟩
  · obtain ⟨⟨a, a1, a2, a3⟩, ⟨b, b1, b2, b3⟩, ⟨c, c1, c2, c3⟩⟩ := g4 i hi
    have a2 : SX 29 i = nI a := a2
    have b2 : SX 30 i = nI b := b2
    have c2 : SX 31 i = nI c := c2
    dsimp only
    rw [a2, b2, c2, nI_clamp (by omega), nI_clamp (by omega)]
    exact ⟨a3, b3, c3⟩
theorem st_greedy : Lw_greedy JJ := by
  intro SX SM x1 hJ
  obtain ⟨S1, Z, h, qs, hS1, c0, hJ1, Zk, h9, C, M, K, w41, x0, x5⟩ := pre hJ
  have z6 := Zk.2.1.2
  obtain ⟨n, wh, wn, sn, hk, X, XM⟩ := jSeen_of hJ1 z6 x5
  have hM0 : fX12_greedy 5000 x1 SM = if iv (wth x1 0 2) = 0 then fX12_greedy_b17 5000 S1 else fX12_greedy_b23 5000 x1 S1 := by
    unfold fX12_greedy fX12_greedy_b0
    dsimp only [lt]
    rw [← hS1, bnd_t in_0_2]
  cases h1 : wth x1 0 2 with
  | false =>
    refine stFl 5000 5000 1 hJ one_ne (Or.inr rfl) (nwF h1) ?_
    show fX12_greedy 5000 x1 SM = _
    rw [hM0, h1, ← hS1]
    rfl
  | true =>
  obtain ⟨F, hF⟩ : ∃ z, z = fitB Z (SX 21 1) h qs n wh wn sn := ⟨_, rfl⟩
  obtain ⟨X2, a1, a2, a3, a4⟩ := x_weigh hF Zk C K hk X h9
  have hX : fX11_greedy 5000 x1 SX = if x1 = 0 then fX11_greedy_b52 5000 X2 else if x1 = 1 then fX11_greedy_b60 5000 X2 else fX11_greedy_b68 5000 X2 := by
    refine (nwT h1).trans ?_
    dsimp only [lt]
    rw [bnd_t a1]
  have hM : fX12_greedy 5000 x1 SM = if x1 = 2 then fX12_greedy_b28 5000 S1 else fX12_greedy_b41 5000 x1 S1 := by
    rw [hM0, h1]
    rfl
  have c60 := cntB_le (c := F) (10 * tn1 Z)
  obtain ⟨c, c1, c2, rfl⟩ := wth_of (a := 0) (b := 2) (by decide) (by decide) h1
  rcases (show c = 2 ∨ c = 0 ∨ c = 1 by omega) with rfl | rfl | rfl
  · obtain ⟨S2, b1, b2⟩ := m_isAsSeen Zk K.h M w41 h9 hk XM
    have s0 : mSame (sU SM 99 4 0) S2 := by rw [← hS1]; exact m5.same b2
    have s4 : S2 99 4 = 0 := (b2 99 4 rfl).trans c0
    refine stSu 5000 5000 (iv (asB Z (SX 21 1) h qs n wh wn sn (Z 5))) hJ rfl (Or.inl rfl) ⟨(0, iv (asB Z (SX 21 1) h qs n wh wn sn (Z 5)), X2), ?_, rfl, rfl, a2⟩ ⟨(iv (asB Z (SX 21 1) h qs n wh wn sn (Z 5)), S2), ?_, rfl, s0, s4⟩
    · show fX11_greedy 5000 (nI 2) SX = _
      rw [hX, asB_all Zk hk, if_neg (by decide), if_neg (by decide)]
      unfold fX11_greedy_b68
      rw [a3]
      cases otB Z (SX 21 1) h qs n wh wn sn (-1) <;> rfl
    · show fX12_greedy 5000 (nI 2) SM = _
      rw [hM]
      show fX12_greedy_b28 5000 S1 = _
      unfold fX12_greedy_b28
      rw [bnd_t b1]
      cases asB Z (SX 21 1) h qs n wh wn sn (Z 5) <;> rfl
  · obtain ⟨S2, b1, b2, b3, b4⟩ := m_tellFits hF Zk M K w41 hk XM h9
    have s0 : mSame (sU SM 99 4 0) S2 := by rw [← hS1]; exact m6.same b2
    have s4 : S2 99 4 = 0 := (b2 99 4 rfl).trans c0
    refine stSu 5000 5000 (nI (cntB F (10 * tn1 Z))) hJ rfl (Or.inl rfl) ⟨(0, X2 62 3, X2), hX, rfl, a4.1, a2⟩ ⟨(S2 99 54, S2), ?_, b3, s0, s4⟩
    show fX12_greedy 5000 (nI 0) SM = _
    rw [hM]
    show fX12_greedy_b41 5000 (nI 0) S1 = _
    unfold fX12_greedy_b41
    rw [bnd_t b1]
    rfl
  · obtain ⟨S2, b1, b2, b3, b4⟩ := m_tellFits hF Zk M K w41 hk XM h9
    have s0 : mSame (sU SM 99 4 0) S2 := by rw [← hS1]; exact m6.same b2
    have s4 : S2 99 4 = 0 := (b2 99 4 rfl).trans c0
    refine stSu 5000 5000 (if cntB F (10 * tn1 Z) = 0 then -1 else nI (fI F 0)) hJ rfl (Or.inl rfl) ⟨(0, X2 62 4, X2), hX, rfl, a4.2.1, a2⟩ ⟨((if cntB F (10 * tn1 Z) = 0 then -1 else nI (fI F 0)), S2), ?_, rfl, s0, s4⟩
    show fX12_greedy 5000 (nI 1) SM = _
    rw [hM]
    show fX12_greedy_b41 5000 (nI 1) S1 = _
    unfold fX12_greedy_b41
    rw [bnd_t b1]
    show fX12_greedy_b56 5000 S2 = _
    unfold fX12_greedy_b56
    rw [b3]
    by_cases q : cntB F (10 * tn1 Z) = 0
    · rw [if_pos q, q]
      rfl
    · rw [if_neg q, if_neg (show ¬ nI (cntB F (10 * tn1 Z)) = 0 from fun z => q ((nI_eq (b := 0) (by omega) (by omega)).mp z))]
      unfold fX12_greedy_b67 fX12_greedy_b73
      rw [b4 0 (by omega)]
end

/-! part 82.look -/
section
theorem dv10 : ∀ f, f < 60 → nI f / 10 = nI (f / 10) ∧ nI f - nI (f / 10) * 10 = nI (f % 10) := by decide +kernel
theorem pc_pos : ∀ x, x < 256 → 0 < x → 1 ≤ pcN x := by decide +kernel
theorem fI_lt {c : Nat → Bool} {i : Nat} : ∀ m, m ≤ 60 → i < cntB c m → fI c i < m := by
  intro m
  induction m with
  | zero => intro _ h; exact absurd h (Nat.not_lt_zero _)
  | succ m ih =>
    intro hm h
    have e : cntB c (m + 1) = cntB c m + if c m = true then 1 else 0 := rfl
    by_cases q : i < cntB c m
    · have := ih (by omega) q
      omega
    · by_cases hc : c m = true
      · rw [if_pos hc] at e
        have hi : i = cntB c m := by omega
        rw [hi, fI_at (by omega) hc]
        omega
      · rw [if_neg hc] at e
        omega
/-- the first hour behind which the most is unlike -/
noncomputable def bsN (u : Nat → Nat) : Nat → Nat
  | 0 => 0
  | k + 1 => if k = 0 then 1 else if u (k + 1) ≤ u (bsN u k) then bsN u k else k + 1
theorem bsN_le {u : Nat → Nat} : ∀ k, bsN u k ≤ k ∧ (0 < k → 1 ≤ bsN u k) := by
  intro k
  induction k with
  | zero => exact ⟨Nat.le_refl _, fun h => absurd h (by omega)⟩
  | succ k ih =>
    have e : bsN u (k + 1) = if k = 0 then 1 else if u (k + 1) ≤ u (bsN u k) then bsN u k else k + 1 := rfl
    by_cases h0 : k = 0
    · rw [if_pos h0] at e; omega
    · rw [if_neg h0] at e
      by_cases h1 : u (k + 1) ≤ u (bsN u k)
      · rw [if_pos h1] at e; omega
      · rw [if_neg h1] at e; omega
section
variable {Z S S1 S3 : gS} {d : Int32} {h n c : Nat} {qs : Nat → qT} {F : Nat → Bool}
noncomputable def unN (Z : gS) (d : Int32) (h : Nat) (qs : Nat → qT) (F : Nat → Bool) (c t : Nat) : Nat := pcN (orN (fun i => wsN Z d h qs (fI F i) t) c)
theorem un_ok {t : Nat} (Zk : tOK Z) : orN (fun i => wsN Z d h qs (fI F i) t) c < 256 ∧ unN Z d h qs F c t ≤ 8 ∧ bcV (nI (orN (fun i => wsN Z d h qs (fI F i) t) c)) = nI (unN Z d h qs F c t) ∧ (0 < c → 1 ≤ unN Z d h qs F c t) := by
  have hl := orN_lt (w := fun i => wsN Z d h qs (fI F i) t) c (fun i _ => wsN_lt Zk)
  refine ⟨hl, (pc_all _ hl).2, (pc_all _ hl).1, fun hc => pc_pos _ hl ?_⟩
  obtain ⟨c', rfl⟩ : ∃ c', c = c' + 1 := ⟨c - 1, by omega⟩
  show 0 < orN _ c' ||| 2 ^ _
  refine Nat.pos_of_ne_zero (fun q => ?_)
  have := (Nat.or_eq_zero_iff.mp q).2
  exact absurd this (Nat.pos_iff_ne_zero.mp (Nat.pow_pos (by decide)))
theorem x_unlike {t : Nat} (Zk : tOK Z) (ht : 1 ≤ t ∧ t ≤ 20) (R : ∀ t, 1 ≤ t → t ≤ 20 → S 71 t = nI (orN (fun i => wsN Z d h qs (fI F i) t) c)) : fX2_unlikeBehind 5000 (nI t) S = some (nI (unN Z d h qs F c t), S) := by
  unfold fX2_unlikeBehind fX2_unlikeBehind_b0
  rw [if_neg (nI_pos (by omega))]
  unfold fX2_unlikeBehind_b4
  rw [if_neg (show ¬ (21 : Int32) ≤ nI t from nI_ge (b := 21) (by omega) (by decide))]
  unfold fX2_unlikeBehind_b13
  rw [chk_t (inb_t (by omega) (by decide)), nI_clamp (n := t) (by omega), R t ht.1 ht.2, bnd_t x_bitCount, (un_ok Zk).2.2.1]
  rfl
theorem x_bestLook (Zk : tOK Z) (hc : c ≤ 60) (h3 : S 62 3 = nI c) (R : ∀ t, 1 ≤ t → t ≤ 20 → S 71 t = nI (orN (fun i => wsN Z d h qs (fI F i) t) c)) : fX2_bestLook 5000 S = some (if c = 0 then -1 else nI (bsN (unN Z d h qs F c) 20), S) := by
  have main : Gv (fX2_bestLook_h4 5000 5000 (-1) 1 S) (fun r => r = ((if c = 0 then -1 else nI (bsN (unN Z d h qs F c) 20)), S)) := by
    refine loopG (A := Int32) (fun f k x => fX2_bestLook_h4 5000 f x (nI (k + 1)) S) (fun k x => x = (if k = 0 then -1 else nI (bsN (unN Z d h qs F c) k)) ∧ (0 < k → 0 < c)) _ 20 ?_ ?_ 20 0 (-1) 5000 (by omega) ⟨rfl, fun q => absurd q (by omega)⟩ (by omega)
    · rintro f x ⟨hx, hc0⟩
      have := hc0 (by omega)
      refine ⟨(x, S), ?_, ?_⟩
      · show fX2_bestLook_b4 5000 _ x (nI 21) S = _
        unfold fX2_bestLook_b4
        rw [if_pos (by decide)]
        rfl
      · rw [hx, if_neg (by omega), if_neg (by omega)]
    · rintro f k x hk ⟨hx, hc0⟩
      have hF0 : fX2_bestLook_h4 5000 (f + 1) x (nI (k + 1)) S = if nI c ≤ 0 then fX2_bestLook_b43 5000 x S else fX2_bestLook_b17 5000 (fX2_bestLook_h4 5000 f) x (nI (k + 1)) S := by
        show fX2_bestLook_b4 5000 (fX2_bestLook_h4 5000 f) x (nI (k + 1)) S = _
        unfold fX2_bestLook_b4
        rw [if_neg (show ¬ (20 : Int32) < nI (k + 1) from nI_nlt (a := 20) (by omega) (by decide))]
        unfold fX2_bestLook_b10
        rw [h3]
      by_cases c0 : c = 0
      · refine Or.inl ⟨(x, S), ?_, ?_⟩
        · show fX2_bestLook_h4 5000 (f + 1) x (nI (k + 1)) S = _
          rw [hF0, c0, if_pos (by decide)]
          rfl
        · have k0 : k = 0 := Nat.eq_zero_of_not_pos (fun q => by have := hc0 q; omega)
          rw [hx, if_pos k0, if_pos c0]
      · have hF1 : fX2_bestLook_h4 5000 (f + 1) x (nI (k + 1)) S = fX2_bestLook_b17 5000 (fX2_bestLook_h4 5000 f) x (nI (k + 1)) S := by
          rw [hF0, if_neg (show ¬ nI c ≤ 0 from nI_ge (a := 0) (by omega) (by omega))]
        have b35 : fX2_bestLook_b35 5000 (fX2_bestLook_h4 5000 f) (nI (k + 1)) S = fX2_bestLook_h4 5000 f (nI (k + 1)) (nI (k + 1 + 1)) S := by
          unfold fX2_bestLook_b35 fX2_bestLook_b37
          rw [nI_1 (k + 1)]
        refine Or.inr ?_
        by_cases k0 : k = 0
        · subst k0
          refine ⟨nI 1, ⟨rfl, fun _ => by omega⟩, ?_⟩
          show fX2_bestLook_h4 5000 (f + 1) x (nI (0 + 1)) S = _
          rw [hF1, hx, if_pos rfl]
          unfold fX2_bestLook_b17
          rw [if_pos rfl, b35]
        · obtain ⟨l1, l2⟩ := bsN_le (u := unN Z d h qs F c) k
          have l2 := l2 (by omega)
          have eB : bsN (unN Z d h qs F c) (k + 1) = if unN Z d h qs F c (k + 1) ≤ unN Z d h qs F c (bsN (unN Z d h qs F c) k) then bsN (unN Z d h qs F c) k else k + 1 := if_neg k0
          rw [if_neg k0] at hx
          have u1 := (un_ok (d := d) (h := h) (qs := qs) (F := F) (c := c) (t := k + 1) Zk).2.1
          have u2 := (un_ok (d := d) (h := h) (qs := qs) (F := F) (c := c) (t := bsN (unN Z d h qs F c) k) Zk).2.1
          have hF2 : fX2_bestLook_h4 5000 (f + 1) x (nI (k + 1)) S = if nI (unN Z d h qs F c (k + 1)) ≤ nI (unN Z d h qs F c (bsN (unN Z d h qs F c) k)) then fX2_bestLook_b37 5000 (fX2_bestLook_h4 5000 f) x (nI (k + 1)) S else fX2_bestLook_b35 5000 (fX2_bestLook_h4 5000 f) (nI (k + 1)) S := by
            rw [hF1]
            unfold fX2_bestLook_b17
            rw [if_neg (by rw [hx]; exact nI_nem (by omega))]
            unfold fX2_bestLook_b22
            rw [bnd_t (x_unlike Zk (by omega) R)]
            dsimp only
            rw [hx, bnd_t (x_unlike Zk (by omega) R)]
          refine ⟨nI (bsN (unN Z d h qs F c) (k + 1)), ⟨(if_neg (Nat.succ_ne_zero k)).symm, fun _ => by omega⟩, ?_⟩
          show fX2_bestLook_h4 5000 (f + 1) x (nI (k + 1)) S = _
          rw [hF2, eB]
          by_cases h1 : unN Z d h qs F c (k + 1) ≤ unN Z d h qs F c (bsN (unN Z d h qs F c) k)
          · rw [if_pos h1, if_pos (nI_le h1 (by omega)), hx]
            unfold fX2_bestLook_b37
            rw [nI_1 (k + 1)]
          · rw [if_neg h1, if_neg (nI_ge (by omega) (by omega)), b35]
  obtain ⟨r, r1, rfl⟩ := main
  exact r1
end
noncomputable def m7 (i j : Nat) : Bool := i == 42 || i == 43 || i == 53 || (i == 99 && (j == 44 || j == 45))
theorem m7_f {i j : Nat} : m7 i j = false ↔ (i ≠ 42 ∧ i ≠ 43 ∧ i ≠ 53 ∧ ¬ (i = 99 ∧ (j = 44 ∨ j = 45))) := by
  unfold m7
  simp only [Bool.or_eq_false_iff, Bool.and_eq_false_iff, beq_eq_false_iff_ne]
  omega
theorem m7.same {S S' : gS} (s : oSame m7 S S') : mSame S S' := by
  intro i j h
  refine s i j ?_
  rw [m7_f]
  refine ⟨?_, ?_, ?_, ?_⟩
  · intro q; rw [q] at h; cases h
  · intro q; rw [q] at h; cases h
  · intro q; rw [q] at h; cases h
  · rintro ⟨q, r | r⟩ <;> rw [q, r] at h <;> cases h
section
variable {Z S S1 S3 : gS} {d : Int32} {h n c : Nat} {qs : Nat → qT} {F : Nat → Bool}
/-- what is written of the WORSTS of the first i that fit -/
def wrM (Z : gS) (d : Int32) (h : Nat) (qs : Nat → qT) (F : Nat → Bool) (i : Nat) (S : gS) : Prop := ∀ i', i' < i → ∀ t, t < 20 → S 53 (20 * i' + t) = nI (wsN Z d h qs (fI F i') (t + 1))
theorem m_look79 {i : Nat} {x1 x4 : Int32} {r35 : Int32 → Int32 → gS → Option (Int32 × gS)} (Zk : tOK Z) (K : qsH Z qs) (h9 : h ≤ 999) (hi : i < 60) (hf : fI F i / 10 < tn1 Z) (M : mSit Z S h d (upE (Z 5) (fI F i / 10) (nI (fI F i % 10))) qs) (w41 : S 99 41 = -1) (W : wrM Z d h qs F i S) : ∃ S', fX12_look_h79 5000 r35 5000 x1 (nI i) (nI (fI F i / 10)) x4 0 S = fX12_look_b116 5000 r35 x1 (nI i) (nI (fI F i / 10)) x4 S' ∧ (∀ a b, mHo a b = false → a ≠ 53 → S' a b = S a b) ∧ wrM Z d h qs F (i + 1) S' := by
  have z6 := Zk.2.1.2
  obtain ⟨e, he⟩ : ∃ z : Nat → Int32, z = upE (Z 5) (fI F i / 10) (nI (fI F i % 10)) := ⟨_, rfl⟩
  rw [← he] at M
  have main : ∀ (m t f : Nat) (S5 : gS), t + m = 20 → m < f → mSit Z S5 (h + t) d e (fun g => trj Z (e g) d (wetZ Z) h (qs g) t) → (∀ a b, mHo a b = false → a ≠ 53 → S5 a b = S a b) → wrM Z d h qs F i S5 → (∀ t', t' < t → S5 53 (20 * i + t') = nI (wsN Z d h qs (fI F i) (t' + 1))) → ∃ S', fX12_look_h79 5000 r35 f x1 (nI i) (nI (fI F i / 10)) x4 (nI t) S5 = fX12_look_b116 5000 r35 x1 (nI i) (nI (fI F i / 10)) x4 S' ∧ (∀ a b, mHo a b = false → a ≠ 53 → S' a b = S a b) ∧ wrM Z d h qs F (i + 1) S' := by
    intro m
    induction m with
    | zero =>
      intro t f S5 ht hf2 M5 s5 W5 W6
      obtain ⟨f, rfl⟩ : ∃ f', f = f' + 1 := ⟨f - 1, by omega⟩
      obtain rfl : t = 20 := by omega
      refine ⟨S5, ?_, s5, fun i' a t b => ?_⟩
      · show fX12_look_b79 5000 r35 _ x1 (nI i) _ x4 (nI 20) S5 = _
        unfold fX12_look_b79
        rw [if_pos (by decide)]
      · by_cases q : i' = i
        · rw [q]; exact W6 t b
        · exact W5 i' (by omega) t b
    | succ m ih =>
      intro t f S5 ht hf2 M5 s5 W5 W6
      obtain ⟨f, rfl⟩ : ∃ f', f = f' + 1 := ⟨f - 1, by omega⟩
      obtain ⟨S6, r1, r2, -, r4⟩ := m_step1 (N := 5000) Zk (K.tr (h := h) (d := d) (wf := wetZ Z) (e := e) t) (by omega) (by decide) M5 ((s5 99 41 rfl (by decide)).trans w41)
      have r2 : mSit Z S6 (h + (t + 1)) d e (fun g => trj Z (e g) d (wetZ Z) h (qs g) (t + 1)) := r2
      have hgr := m_greatest (N := 5000) (k1 := 32) (S := S6) r2.1.2.1 z6 (by decide) (by decide)
      have eg : gtR (S6 32) (tn1 Z) = nI (wsN Z d h qs (fI F i) (t + 1)) := by
        rw [gtR_eq (v' := fun g => sq Z d h qs (e g) g (t + 1)) (fun g hg => (r2.2.2.2.2 g hg).1)]
        unfold gtR wsN
        rw [if_neg (by omega), he]
      rw [eg] at hgr
      have hF : fX12_look_h79 5000 r35 (f + 1) x1 (nI i) (nI (fI F i / 10)) x4 (nI t) S5 = fX12_look_h79 5000 r35 f x1 (nI i) (nI (fI F i / 10)) x4 (nI (t + 1)) (sU S6 53 (20 * i + t) (nI (wsN Z d h qs (fI F i) (t + 1)))) := by
        show fX12_look_b79 5000 r35 (fX12_look_h79 5000 r35 f) x1 (nI i) (nI (fI F i / 10)) x4 (nI t) S5 = _
        unfold fX12_look_b79
        rw [if_neg (show ¬ (20 : Int32) ≤ nI t from nI_ge (b := 20) (by omega) (by decide))]
        unfold fX12_look_b86
        dsimp only [lt]
        rw [bnd_t r1]
        dsimp only
        rw [bnd_t hgr]
        dsimp only
        rw [show (20 : Int32) = nI 20 from rfl, pk_mul, nI_add, chk_t (inb_t (by omega) (by decide)), nI_clamp (n := 20 * i + t) (by omega), nI_1 t]
      rw [hF]
      refine ih (t + 1) f _ (by omega) (by omega) ?_ (fun a b c1 c2 => ?_) (fun i' a t' b => ?_) (fun t' a => ?_)
      · refine r2.on (fun a b hab => ?_)
        refine sU_n (fun q => ?_)
        rw [q.1] at hab
        cases hab
      · rw [sU_ne c2, r4 a b c1]
        exact s5 a b c1 c2
      · rw [sU_ap, if_neg (by omega), r4 53 _ rfl]
        exact W5 i' a t' b
      · rw [sU_ap]
        by_cases q : t' = t
        · rw [if_pos ⟨rfl, by omega⟩, q]
        · rw [if_neg (by omega), r4 53 _ rfl]
          exact W6 t' (by omega)
  exact main 20 0 5000 S (by omega) (by omega) M (fun _ _ _ _ => rfl) W (fun t' a => absurd a (by omega))
theorem m_unlike {t : Nat} (Zk : tOK Z) (ht : t < 20) (hc : c ≤ 60) (h54 : S 99 54 = nI c) (W : wrM Z d h qs F c S) : fX12_unlike 5000 (nI t) S = some (nI (unN Z d h qs F c (t + 1)), S) := by
  have main : Gv (fX12_unlike_h4 5000 5000 (nI t) 0 0 S) (fun r => r = (nI (unN Z d h qs F c (t + 1)), S)) := by
    refine loopG (A := Unit) (fun f i _ => fX12_unlike_h4 5000 f (nI t) (nI (orN (fun i => wsN Z d h qs (fI F i) (t + 1)) i)) (nI i) S) (fun _ _ => True) _ c ?_ ?_ c 0 () 5000 (by omega) trivial (by omega)
    · rintro f a -
      refine ⟨(nI (unN Z d h qs F c (t + 1)), S), ?_, rfl⟩
      obtain ⟨u1, u2, u3, u4⟩ := un_ok (Z := Z) (d := d) (h := h) (qs := qs) (F := F) (c := c) (t := t + 1) Zk
      show fX12_unlike_b4 5000 _ (nI t) _ (nI c) S = _
      unfold fX12_unlike_b4
      rw [h54, if_pos (nI_le (Nat.le_refl _) (by omega))]
      unfold fX12_unlike_b34
      rw [bnd_t (m_bitsOf u1 (by decide)), u3]
    · rintro f i a hi -
      refine Or.inr ⟨(), trivial, ?_⟩
      have u1 := orN_lt (w := fun i => wsN Z d h qs (fI F i) (t + 1)) i (fun i _ => wsN_lt Zk)
      show fX12_unlike_b4 5000 (fX12_unlike_h4 5000 f) (nI t) _ (nI i) S = fX12_unlike_h4 5000 f (nI t) (nI (orN (fun i => wsN Z d h qs (fI F i) (t + 1)) i ||| 2 ^ wsN Z d h qs (fI F i) (t + 1))) (nI (i + 1)) S
      unfold fX12_unlike_b4
      rw [h54, if_neg (nI_ge hi (by omega))]
      unfold fX12_unlike_b12
      rw [show (20 : Int32) = nI 20 from rfl, pk_mul, nI_add, chk_t (inb_t (by omega) (by decide)), nI_clamp (n := 20 * i + t) (by omega), W i hi t ht, (or_all _ u1 _ (wsN_lt Zk)).1, nI_1 i]
  obtain ⟨r, r1, rfl⟩ := main
  exact r1
theorem m_look146 {x1 : Int32} (Zk : tOK Z) (hc : c ≤ 60) (h54 : S 99 54 = nI c) (W : wrM Z d h qs F c S) : fX12_look_b139 5000 x1 S = fX12_look_b184 5000 x1 (if c = 0 then -1 else nI (bsN (unN Z d h qs F c) 20)) (if c = 0 then 0 else nI (unN Z d h qs F c (bsN (unN Z d h qs F c) 20))) S := by
  have main : ∀ (m t f : Nat) (x y : Int32), t + m = 20 → m < f → x = (if c = 0 then -1 else if t = 0 then -1 else nI (bsN (unN Z d h qs F c) t)) → y = (if c = 0 then 0 else if t = 0 then 0 else nI (unN Z d h qs F c (bsN (unN Z d h qs F c) t))) → fX12_look_h146 5000 f x1 x y (nI t) S = fX12_look_b184 5000 x1 (if c = 0 then -1 else nI (bsN (unN Z d h qs F c) 20)) (if c = 0 then 0 else nI (unN Z d h qs F c (bsN (unN Z d h qs F c) 20))) S := by
    intro m
    induction m with
    | zero =>
      intro t f x y ht hf hx hy
      obtain ⟨f, rfl⟩ : ∃ f', f = f' + 1 := ⟨f - 1, by omega⟩
      obtain rfl : t = 20 := by omega
      show fX12_look_b146 5000 _ x1 x y (nI 20) S = _
      unfold fX12_look_b146
      rw [if_pos (by decide), hx, hy, if_neg (show ¬ 20 = 0 by decide), if_neg (show ¬ 20 = 0 by decide)]
    | succ m ih =>
      intro t f x y ht hf hx hy
      obtain ⟨f, rfl⟩ : ∃ f', f = f' + 1 := ⟨f - 1, by omega⟩
      obtain ⟨u1, u2, u3, u4⟩ := un_ok (Z := Z) (d := d) (h := h) (qs := qs) (F := F) (c := c) (t := t + 1) Zk
      have hF : fX12_look_h146 5000 (f + 1) x1 x y (nI t) S = if y < nI (unN Z d h qs F c (t + 1)) then fX12_look_h146 5000 f x1 (nI (t + 1)) (nI (unN Z d h qs F c (t + 1))) (nI (t + 1)) S else fX12_look_h146 5000 f x1 x y (nI (t + 1)) S := by
        show fX12_look_b146 5000 (fX12_look_h146 5000 f) x1 x y (nI t) S = _
        unfold fX12_look_b146
        rw [if_neg (show ¬ (20 : Int32) ≤ nI t from nI_ge (b := 20) (by omega) (by decide))]
        unfold fX12_look_b153
        rw [bnd_t (m_unlike Zk (by omega) hc h54 W)]
        unfold fX12_look_b170 fX12_look_b167 fX12_look_b178
        rw [nI_1 t]
      rw [hF]
      by_cases c0 : c = 0
      · have e0 : unN Z d h qs F c (t + 1) = 0 := by
          rw [c0]
          show pcN 0 = 0
          decide
        rw [if_pos c0] at hx hy
        rw [hy, e0, if_neg (by decide)]
        exact ih (t + 1) f x 0 (by omega) (by omega) (by rw [if_pos c0]; exact hx) (by rw [if_pos c0])
      · rw [if_neg c0] at hx hy
        have n1 : ¬ t + 1 = 0 := Nat.succ_ne_zero t
        by_cases t0 : t = 0
        · subst t0
          have u4 := u4 (by omega)
          rw [if_pos rfl] at hy
          rw [hy, if_pos (show (0 : Int32) < nI (unN Z d h qs F c (0 + 1)) from nI_lt (a := 0) (by omega) (by omega))]
          exact ih 1 f _ _ (by omega) (by omega) (by rw [if_neg c0, if_neg n1]; rfl) (by rw [if_neg c0, if_neg n1]; rfl)
        · have eB : bsN (unN Z d h qs F c) (t + 1) = if unN Z d h qs F c (t + 1) ≤ unN Z d h qs F c (bsN (unN Z d h qs F c) t) then bsN (unN Z d h qs F c) t else t + 1 := if_neg t0
          rw [if_neg t0] at hx hy
          have u5 := (un_ok (d := d) (h := h) (qs := qs) (F := F) (c := c) (t := bsN (unN Z d h qs F c) t) Zk).2.1
          by_cases h1 : unN Z d h qs F c (t + 1) ≤ unN Z d h qs F c (bsN (unN Z d h qs F c) t)
          · rw [if_pos h1] at eB
            rw [hy, if_neg (nI_nlt h1 (by omega))]
            exact ih (t + 1) f _ _ (by omega) (by omega) (by rw [if_neg c0, if_neg n1, eB]; exact hx) (by rw [if_neg c0, if_neg n1, eB])
          · rw [if_neg h1] at eB
            rw [hy, if_pos (nI_lt (by omega) (by omega))]
            exact ih (t + 1) f _ _ (by omega) (by omega) (by rw [if_neg c0, if_neg n1, eB]) (by rw [if_neg c0, if_neg n1, eB])
  unfold fX12_look_b139
  refine main 20 0 5000 (-1) 0 (by omega) (by omega) ?_ ?_
  · by_cases c0 : c = 0
    · rw [if_pos c0]
    · rw [if_neg c0, if_pos rfl]
  · by_cases c0 : c = 0
    · rw [if_pos c0]
    · rw [if_neg c0, if_pos rfl]
end
end

/-! part 83.look -/
section
section
variable {Z S1 S2 : gS} {d : Int32} {h n c : Nat} {qs : Nat → qT} {F : Nat → Bool}
theorem m_look35 {x1 : Int32} (Zk : tOK Z) (K : qsOK Z (Z 5) qs) (h9 : h ≤ 999) (hc : c ≤ 60) (hf : ∀ i, i < c → fI F i < 10 * tn1 Z) (M : mSit Z S2 h d (Z 5) qs) (w41 : S2 99 41 = -1) (h54 : S2 99 54 = nI c) (T : ∀ i, i < c → S2 52 i = nI (fI F i)) : ∃ S0 S', fX12_pack 5000 46 0 S2 = some (0, S0) ∧ fX12_look_h35 5000 5000 x1 0 S0 = fX12_look_b139 5000 x1 S' ∧ mSame S2 S' ∧ S' 99 4 = S2 99 4 ∧ S' 99 54 = nI c ∧ wrM Z d h qs F c S' := by
  have z6 := Zk.2.1.2
  obtain ⟨S3, p1, p2, p3⟩ := q_pk (N := 5000) (S1 := S2) (nd := 46) (Or.inl rfl) (by decide)
  have s3 : mSame S2 S3 := fun i j hij => p2 i j (fun q => by rw [q] at hij; cases hij)
  have M3 := M.on s3
  refine ⟨S3, ?_⟩
  have main : ∀ (m i f : Nat) (S : gS), i + m = c → m < f → oSame m7 S3 S → wrM Z d h qs F i S → ∃ S', fX12_look_h35 5000 f x1 (nI i) S = fX12_look_b139 5000 x1 S' ∧ oSame m7 S3 S' ∧ wrM Z d h qs F c S' := by
    intro m
    induction m with
    | zero =>
      intro i f S hi hf2 s W
      obtain ⟨f, rfl⟩ : ∃ f', f = f' + 1 := ⟨f - 1, by omega⟩
      obtain rfl : i = c := by omega
      refine ⟨S, ?_, s, W⟩
      show fX12_look_b35 5000 _ x1 (nI i) S = _
      unfold fX12_look_b35
      rw [s 99 54 rfl, p2 99 54 (by decide), h54, if_pos (nI_le (Nat.le_refl _) (by omega))]
    | succ m ih =>
      intro i f S hi hf2 s W
      obtain ⟨f, rfl⟩ : ∃ f', f = f' + 1 := ⟨f - 1, by omega⟩
      have hfi := hf i (by omega)
      obtain ⟨v1, v2⟩ := dv10 (fI F i) (by omega)
      have t52 : S 52 i = nI (fI F i) := by
        rw [s 52 i rfl, p2 52 i (by decide)]
        exact T i (by omega)
      have M4 : mSit Z (sU S 18 (fI F i / 10) (nI (fI F i % 10))) h d (upE (Z 5) (fI F i / 10) (nI (fI F i % 10))) qs := (M3.on (m7.same s)).gr
      obtain ⟨S5, a1, a2, a3⟩ := m_look79 (r35 := fX12_look_h35 5000 f) (x1 := x1) (x4 := S 18 (fI F i / 10)) (i := i) (F := F) Zk K.h h9 (by omega) (by omega) M4 (by rw [sU_ne (by decide), s 99 41 rfl, p2 99 41 (by decide)]; exact w41) (fun i' a t b => by rw [sU_ne (by decide)]; exact W i' a t b)
      obtain ⟨S6, hS6⟩ : ∃ z, z = sU S5 18 (fI F i / 10) (S 18 (fI F i / 10)) := ⟨_, rfl⟩
      have b6 : ∀ a b, mHo a b = false → a ≠ 53 → S6 a b = S a b := by
        intro a b q1 q2
        rw [hS6, sU_ap]
        by_cases q : a = 18 ∧ b = fI F i / 10
        · rw [if_pos q, q.1, q.2]
        · rw [if_neg q, a2 a b q1 q2, sU_n q]
      obtain ⟨S7, u1, u2⟩ := p3 S6 (fun j => by rw [b6 46 j rfl (by decide), s 46 j rfl])
      have s7 : oSame m7 S3 S7 := by
        intro a b q
        rw [u2 a b]
        have q' := m7_f.mp q
        by_cases hp : mPk a b = true
        · rw [if_pos hp, p2 a b]
          rw [mPk_t] at hp
          omega
        · rw [if_neg hp, b6 a b ?_ q'.2.2.1]
          · exact s a b q
          · rw [mPk_t] at hp
            cases hh : mHo a b with
            | false => rfl
            | true =>
              exfalso
              unfold mHo at hh
              simp only [Bool.or_eq_true, Bool.and_eq_true, beq_iff_eq, decide_eq_true_iff] at hh
              omega
      have W7 : wrM Z d h qs F (i + 1) S7 := by
        intro i' a t b
        rw [u2, if_neg (fun q => by rw [mPk_t] at q; omega), hS6, sU_ne (by decide)]
        exact a3 i' a t b
      obtain ⟨S', e1, e2, e3⟩ := ih (i + 1) f S7 (by omega) (by omega) s7 W7
      refine ⟨S', ?_, e2, e3⟩
      rw [← e1]
      show fX12_look_b35 5000 (fX12_look_h35 5000 f) x1 (nI i) S = _
      unfold fX12_look_b35
      rw [s 99 54 rfl, p2 99 54 (by decide), h54, if_neg (nI_ge (by omega) (by omega))]
      unfold fX12_look_b43
      dsimp only [lt]
      rw [nI_clamp (n := i) (by omega), t52, v1, v2, chk_t (inb_t (by omega) (by decide)), chk_t (inb_t (by omega) (by decide)), chk_t (inb_t (by omega) (by decide)), chk_t (inb_t (by omega) (by decide)), nI_clamp (n := fI F i / 10) (by omega), a1]
      unfold fX12_look_b116
      dsimp only [lt]
      rw [chk_t (inb_t (by omega) (by decide)), nI_clamp (n := fI F i / 10) (by omega), ← hS6, bnd_t u1]
      dsimp only
      rw [nI_1 i]
  obtain ⟨S', e1, e2, e3⟩ := main c 0 5000 S3 (by omega) (by omega) oSame.rf (fun i' a => absurd a (by omega))
  refine ⟨S', p1, e1, s3.tr (m7.same e2), ?_, ?_, e3⟩
  · rw [e2 99 4 rfl, p2 99 4 (by decide)]
  · rw [e2 99 54 rfl, p2 99 54 (by decide)]; exact h54
end
theorem st_look : Lw_look JJ := by
  intro SX SM x1 hJ
  obtain ⟨S1, Z, h, qs, hS1, c0, hJ1, Zk, h9, C, M, K, w41, x0, x5⟩ := pre hJ
  have z6 := Zk.2.1.2
  obtain ⟨n, wh, wn, sn, hk, X, XM⟩ := jSeen_of hJ1 z6 x5
  have hM0 : fX12_look 5000 x1 SM = if x1 < 0 then fX12_look_b14 5000 S1 else fX12_look_b9 5000 x1 S1 := by
    unfold fX12_look fX12_look_b0
    dsimp only [lt]
    rw [← hS1]
  cases h1 : wth x1 0 1 with
  | false =>
    refine stFl 5000 5000 1 hJ one_ne (Or.inr rfl) (nwF h1) ?_
    show fX12_look 5000 x1 SM = _
    rw [hM0]
    rcases w01F h1 with q | ⟨q1, q2⟩
    · rw [if_pos q, ← hS1]
      rfl
    · rw [if_neg q1, ← hS1]
      unfold fX12_look_b9
      rw [if_neg q2]
      rfl
  | true =>
  obtain ⟨q1, q2, q3⟩ := w01T h1
  obtain ⟨F, hF⟩ : ∃ z, z = fitB Z (SX 21 1) h qs n wh wn sn := ⟨_, rfl⟩
  obtain ⟨X2, a1, a2, a3, a4, a5, a6⟩ := x_weigh hF Zk C K hk X h9
  obtain ⟨c, hc⟩ : ∃ z, z = cntB F (10 * tn1 Z) := ⟨_, rfl⟩
  have c60 : c ≤ 60 := by have := cntB_le (c := F) (10 * tn1 Z); omega
  rw [← hc] at a4 a6
  have hb := x_bestLook Zk c60 a4 a6
  obtain ⟨B, hB⟩ : ∃ z : Int32, z = if c = 0 then -1 else nI (bsN (unN Z (SX 21 1) h qs F c) 20) := ⟨_, rfl⟩
  rw [← hB] at hb
  have hX : fX11_look 5000 x1 SX = if x1 = 0 then fX11_look_b36 5000 B X2 else fX11_look_b38 5000 B X2 := by
    refine (nwT h1).trans ?_
    dsimp only [lt]
    rw [bnd_t a1]
    dsimp only
    rw [bnd_t hb]
  obtain ⟨S2, b1, b2, b3, b4⟩ := m_tellFits hF Zk M K w41 hk XM h9
  rw [← hc] at b3 b4
  obtain ⟨S3, S4, e1, e2, e3, e4, e5, e6⟩ := m_look35 (x1 := x1) (d := SX 21 1) (F := F) Zk K h9 c60 (fun i hi => fI_lt _ (by omega) (by rw [← hc]; exact hi)) (M.on (m6.same b2)) ((b2 99 41 rfl).trans w41) b3 b4
  have hM : fX12_look 5000 x1 SM = fX12_look_b184 5000 x1 B (if c = 0 then 0 else nI (unN Z (SX 21 1) h qs F c (bsN (unN Z (SX 21 1) h qs F c) 20))) S4 := by
    rw [hM0, if_neg q1]
    unfold fX12_look_b9
    rw [if_pos q2]
    unfold fX12_look_b20
    rw [bnd_t b1]
    dsimp only
    rw [bnd_t e1]
    dsimp only
    rw [e2, m_look146 Zk c60 e5 e6, hB]
  have s0 : mSame (sU SM 99 4 0) S4 := by rw [← hS1]; exact (m6.same b2).tr e3
  have s4 : S4 99 4 = 0 := e4.trans ((b2 99 4 rfl).trans c0)
  rcases q3 with rfl | rfl
  · refine stSu 5000 5000 B hJ rfl (Or.inl rfl) ⟨(0, B, X2), hX, rfl, rfl, a2⟩ ⟨(B, S4), hM, rfl, s0, s4⟩
  · refine stSu 5000 5000 (if c = 0 then 0 else nI (unN Z (SX 21 1) h qs F c (bsN (unN Z (SX 21 1) h qs F c) 20))) hJ rfl (Or.inl rfl) ⟨(0, (if c = 0 then 0 else nI (unN Z (SX 21 1) h qs F c (bsN (unN Z (SX 21 1) h qs F c) 20))), X2), ?_, rfl, rfl, a2⟩ ⟨((if c = 0 then 0 else nI (unN Z (SX 21 1) h qs F c (bsN (unN Z (SX 21 1) h qs F c) 20))), S4), hM, rfl, s0, s4⟩
    show fX11_look 5000 1 SX = _
    rw [hX]
    show fX11_look_b38 5000 B X2 = _
    unfold fX11_look_b38
    rw [hB]
    by_cases q : c = 0
    · rw [if_pos q, if_pos q, if_pos rfl]
      rfl
    · obtain ⟨l1, l2⟩ := bsN_le (u := unN Z (SX 21 1) h qs F c) 20
      rw [if_neg q, if_neg q, if_neg (nI_nem (by omega))]
      unfold fX11_look_b47
      rw [bnd_t (x_unlike Zk ⟨l2 (by decide), l1⟩ a6)]
      rfl
end

/-! part 84.token -/
section
/-! tokens: both sides go over the same bytes -/
noncomputable def kd (b : Nat) : Nat := if b = 32 then 5 else if b = 10 then 5 else if 97 ≤ b ∧ b ≤ 122 then 1 else if 48 ≤ b ∧ b ≤ 57 then 2 else if b = 59 ∨ b = 40 ∨ b = 41 ∨ b = 43 ∨ b = 45 ∨ b = 42 ∨ b = 47 ∨ b = 60 ∨ b = 61 then 3 else 4
theorem kd_x : ∀ b, b < 256 → (if nI b = 32 then (5 : Int32) else if nI b = 10 then 5 else if (nI b < 97 ∨ 122 < nI b) then (if (nI b < 48 ∨ 57 < nI b) then (if kd b = 3 then 3 else 4) else 2) else 1) = nI (kd b) ∧ ((Int32.toUInt32 (nI b) % 65536).toInt32) = nI b ∧ kd b ≤ 5 ∧ 1 ≤ kd b := by decide +kernel
theorem x_at {N j : Nat} {S : gS} (h : j < 700) : fX8_at N (nI j) S = some (S 3 j &&& 255, S) := by
  unfold fX8_at fX8_at_b0
  rw [if_neg (nI_pos (by omega))]
  unfold fX8_at_b4
  rw [if_neg (show ¬ (700 : Int32) ≤ nI j from nI_ge (b := 700) h (by decide))]
  unfold fX8_at_b13
  rw [chk_t (inb_t h (by decide)), nI_clamp (by omega)]
  rfl
theorem ixc_h {N : Nat} {S : gS} {x : Int32} : ∀ (m j f : Nat), j + m = 9 → m < f → ∃ r, fJ1_indexOfChar_4cfef_h7 N f 1 9 x (nI j) S = some (r, S) ∧ (r < 0 ↔ ∀ i, j ≤ i → i < 9 → ¬ sByt 1 i = x) := by
  intro m
  induction m with
  | zero =>
    intro j f h hf
    obtain ⟨f, rfl⟩ : ∃ f', f = f' + 1 := ⟨f - 1, by omega⟩
    obtain rfl : j = 9 := by omega
    refine ⟨-1, ?_, ⟨fun _ i a b => absurd a (by omega), fun _ => by decide⟩⟩
    show fJ1_indexOfChar_4cfef_b7 N _ 1 9 x (nI 9) S = _
    unfold fJ1_indexOfChar_4cfef_b7
    rw [if_pos (by decide)]
    rfl
  | succ m ih =>
    intro j f h hf
    obtain ⟨f, rfl⟩ : ∃ f', f = f' + 1 := ⟨f - 1, by omega⟩
    have hF : fJ1_indexOfChar_4cfef_h7 N (f + 1) 1 9 x (nI j) S = if sByt 1 j = x then some (nI j, S) else fJ1_indexOfChar_4cfef_h7 N f 1 9 x (nI (j + 1)) S := by
      show fJ1_indexOfChar_4cfef_b7 N (fJ1_indexOfChar_4cfef_h7 N f) 1 9 x (nI j) S = _
      unfold fJ1_indexOfChar_4cfef_b7
      rw [if_neg (show ¬ (9 : Int32) ≤ nI j from nI_ge (b := 9) (by omega) (by decide))]
      unfold fJ1_indexOfChar_4cfef_b13
      rw [chk_t (show inb (nI j) (sLen 1) = true from inb_t (show j < 9 by omega) (by decide)), nI_clamp (by omega)]
      unfold fJ1_indexOfChar_4cfef_b25
      rw [nI_1 j]
      rfl
    rw [hF]
    by_cases q : sByt 1 j = x
    · rw [if_pos q]
      exact ⟨nI j, rfl, ⟨fun z => absurd z (nI_pos (by omega)), fun z => absurd q (z j (Nat.le_refl _) (by omega))⟩⟩
    · rw [if_neg q]
      obtain ⟨r, r1, r2⟩ := ih (j + 1) f (by omega) (by omega)
      refine ⟨r, r1, r2.trans ⟨fun z i a b => ?_, fun z i a b => z i (by omega) b⟩⟩
      by_cases e : i = j
      · rw [e]; exact q
      · exact z i (by omega) b
theorem mk_all : ∀ b, b < 256 → ((∀ i, i < 9 → ¬ sByt 1 i = (Int32.toInt8 (nI b)).toInt32) ↔ ¬ kd b = 3) := by decide +kernel
theorem ch_all : ∀ w, w < 45 → ∀ i, i < sLen w → (Int32.toUInt32 ((sByt w i) &&& 255) % 65536).toInt32 = sByt w i ∧ nc (sByt w i) = true ∧ sLen w < 100 := by decide +kernel
theorem j_charAt {N w i : Nat} {S : gS} (hw : w < 45) (hi : i < sLen w) : fJ0_charAt_5068e N w (nI i) S = some (sByt w i, S) := by
  obtain ⟨c1, c2, c3⟩ := ch_all w hw i hi
  have ci : fJ0_checkIndex_df160 N (nI i) (Int32.ofNat (sLen w)) S = some (0, S) := by
    unfold fJ0_checkIndex_df160 fJ0_checkIndex_df160_b0 fJ3_checkIndex_8e157 fJ3_checkIndex_8e157_b0
    rw [if_neg (nI_pos (by omega))]
    unfold fJ3_checkIndex_8e157_b4
    rw [if_pos (show nI i < Int32.ofNat (sLen w) from nI_lt (b := sLen w) hi (by omega))]
    rfl
  unfold fJ0_charAt_5068e fJ0_charAt_5068e_b0
  show fJ0_charAt_5068e_b7 N w (nI i) S = _
  unfold fJ0_charAt_5068e_b7 fJ1_charAt_3b067 fJ1_charAt_3b067_b0
  rw [bnd_t ci, chk_t (inb_t hi (by omega)), nI_clamp (by omega), c1, chk_t c2]
  show chk (nc (sByt w i)) _ = _
  rw [chk_t c2]
theorem j_length {N w : Nat} {S : gS} (hw : w < 45) : fJ0_length_8abf5 N w S = some (nI (sLen w), S) := by
  have : ∀ w, w < 45 → (Int32.ofNat (sLen w)) >>> ((0 : Int32) &&& 31) = nI (sLen w) := by decide +kernel
  unfold fJ0_length_8abf5 fJ0_length_8abf5_b0
  show some ((Int32.ofNat (sLen w)) >>> ((0 : Int32) &&& 31), S) = _
  rw [this w hw]
theorem x_kindOf {N b : Nat} {S : gS} (hb : b < 256) (hN : 10 < N) : fX8_kindOf N (nI b) S = some (nI (kd b), S) := by
  obtain ⟨k1, k2, k3⟩ := kd_x b hb
  have ix : ∃ r, fJ0_indexOf_0f7a4 N 1 (nI b) S = some (r, S) ∧ (r < 0 ↔ ¬ kd b = 3) := by
    obtain ⟨r, r1, r2⟩ := ixc_h (N := N) (S := S) (x := (Int32.toInt8 (nI b)).toInt32) 9 0 N (by omega) (by omega)
    have r2 : r < 0 ↔ ¬ kd b = 3 := r2.trans ((show (∀ i, 0 ≤ i → i < 9 → ¬ sByt 1 i = (Int32.toInt8 (nI b)).toInt32) ↔ (∀ i, i < 9 → ¬ sByt 1 i = (Int32.toInt8 (nI b)).toInt32) from ⟨fun z i => z i (Nat.zero_le _), fun z i _ => z i⟩).trans (mk_all b hb))
    refine ⟨r, ?_, r2⟩
    have ce : fJ1_canEncode_9a6ad N (nI b) S = some (1, S) := by
      unfold fJ1_canEncode_9a6ad fJ1_canEncode_9a6ad_b0
      rw [if_neg (nI_pos (by omega))]
      unfold fJ1_canEncode_9a6ad_b4
      rw [if_neg (show ¬ (255 : Int32) < nI b from nI_nlt (a := 255) (by omega) (by decide))]
      rfl
    have e1 : fJ1_indexOf_4cfef N 1 (nI b) 0 9 S = some (r, S) := by
      unfold fJ1_indexOf_4cfef fJ1_indexOf_4cfef_b0
      rw [bnd_t ce]
      show fJ1_indexOf_4cfef_b29 N 1 (nI b) 0 9 S = _
      unfold fJ1_indexOf_4cfef_b29 fJ1_indexOfChar_4cfef fJ1_indexOfChar_4cfef_b0
      rw [bnd_t (show fJ1_indexOfChar_4cfef_h7 N N 1 9 (nI b).toInt8.toInt32 0 S = some (r, S) from r1)]
    unfold fJ0_indexOf_0f7a4 fJ0_indexOf_0f7a4_b0 fJ0_indexOf_7cf53 fJ0_indexOf_7cf53_b0
    rw [bnd_t (show bnd (fJ0_isLatin1_aae02 N 1 S) (fun q1 => if q1.1 = 0 then fJ0_indexOf_7cf53_b23 N q1.2 else fJ0_indexOf_7cf53_b7 N 1 (nI b) 0 q1.2) = some (r, S) from ?_)]
    show fJ0_indexOf_7cf53_b7 N 1 (nI b) 0 S = _
    unfold fJ0_indexOf_7cf53_b7
    rw [bnd_t (show fJ0_length_8abf5 N 1 S = some (9, S) by rw [j_length (by decide), show nI (sLen 1) = 9 by decide]), bnd_t e1]
    rfl
  obtain ⟨r, r1, r2⟩ := ix
  have b42 : fX8_kindOf_b42 N (nI b) S = some ((if kd b = 3 then 3 else 4), S) := by
    unfold fX8_kindOf_b42
    rw [k2, bnd_t r1]
    by_cases q : kd b = 3
    · rw [if_pos q, if_neg (fun z => absurd q (r2.mp z))]
      rfl
    · rw [if_neg q, if_pos (r2.mpr q)]
      rfl
  rw [← k1]
  unfold fX8_kindOf fX8_kindOf_b0
  by_cases h1 : nI b = 32
  · rw [if_pos h1, if_pos h1]; rfl
  · rw [if_neg h1, if_neg h1]
    unfold fX8_kindOf_b6
    by_cases h2 : nI b = 10
    · rw [if_pos h2, if_pos h2]; rfl
    · rw [if_neg h2, if_neg h2]
      have b28 : fX8_kindOf_b28 N (nI b) S = some ((if (nI b < 48 ∨ 57 < nI b) then (if kd b = 3 then 3 else 4) else 2), S) := by
        unfold fX8_kindOf_b28
        by_cases h4 : nI b < 48
        · rw [if_pos h4, if_pos (Or.inl h4)]; exact b42
        · rw [if_neg h4]
          unfold fX8_kindOf_b34
          by_cases h5 : 57 < nI b
          · rw [if_pos h5, if_pos (Or.inr h5)]; exact b42
          · rw [if_neg h5, if_neg (fun z => z.elim h4 h5)]; rfl
      unfold fX8_kindOf_b14
      by_cases h3 : nI b < 97
      · rw [if_pos h3, if_pos (Or.inl h3)]; exact b28
      · rw [if_neg h3]
        unfold fX8_kindOf_b20
        by_cases h6 : 122 < nI b
        · rw [if_pos h6, if_pos (Or.inr h6)]; exact b28
        · rw [if_neg h6, if_neg (fun z => z.elim h3 h6)]; rfl
end
