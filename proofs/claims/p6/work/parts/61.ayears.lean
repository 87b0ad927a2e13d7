/-! years -/
noncomputable def sdN (s : Int32) : Int32 := s * 1103515245 + 12345
noncomputable def vN (s : Int32) : Nat := s.toBitVec.toNat / 65536 % 32768
theorem ush_v (s : Int32) : ((s.toUInt32 >>> ((16 : Int32).toUInt32 &&& Int32.toUInt32 31)).toInt32 &&& 32767 : Int32) = nI (vN s) := by
  rw [pk_and (m := 32767) _ 15 rfl, pk_ushr s 16 16 rfl]
  rfl
theorem bb_32767 : ∀ i, i < 32 → bb 32767 i = decide (i < 15) := by decide +kernel
theorem ssh_v (s : Int32) : ((s >>> ((16 : Int32) &&& 31)) &&& 32767 : Int32) = nI (vN s) := by
  rw [← ush_v s]
  refine bb_ext (fun i hi => ?_)
  rw [bb_and, bb_and, bb_32767 i hi]
  by_cases h15 : i < 15
  · rw [decide_eq_true h15, Bool.and_true, Bool.and_true, show ((16 : Int32) &&& 31) = (nI 16 &&& 31) from rfl, bb_sshr 16 (by decide) s hi, if_pos (by omega)]
    unfold bb
    rw [← BitVec.testBit_toNat, ← BitVec.testBit_toNat, pk_ushr s 16 16 rfl, Nat.testBit_div_two_pow, Nat.add_comm]
  · rw [decide_eq_false h15, Bool.and_false, Bool.and_false]
def yR (Z SX S1 S2 : gS) (h : Nat) (S S' : gS) : Prop := ∃ (sd d : Int32) (qs : Nat → qT), S 0 9 = sd ∧ S' 99 56 = sd ∧ cSit 46 Z S h d qs ∧ mSit Z S' h d (Z 5) qs ∧ qsOK Z (Z 5) qs ∧ xSame SX S ∧ (∀ j, S' 46 j = S2 46 j) ∧ S' 99 4 = 0 ∧ (∀ i j, mScr i j = false → mPk i j = false → ¬ (i = 99 ∧ j = 41) → S' i j = S1 i j)
theorem cSit.any {nd : Nat} {Z S S' : gS} {h : Nat} {d : Int32} {qs : Nat → qT} (hnd : nd = 21 ∨ nd = 46) (C : cSit nd Z S h d qs) (s : ∀ i j, ¬ (i = 0 ∧ j = 9) → S' i j = S i j) : cSit nd Z S' h d qs := by
  obtain ⟨c1, c2, c3, c4⟩ := C
  have hT : xtw S' = xtw S := by
    unfold xtw
    rw [s 0 7 (by omega)]
  refine ⟨?_, by rw [s nd 0 (by omega)]; exact c2, by rw [s nd 1 (by omega)]; exact c3, fun g hg => ?_⟩
  · rw [hT]
    intro i j h1 h2
    have := xtw_cases (S := S)
    rw [s (xtw S + i) j (by omega)]
    exact c1 i j h1 h2
  · rw [s _ _ (by omega), s _ _ (by omega), s _ _ (by omega), s _ _ (by omega)]
    exact c4 g hg
section
variable {Z SX S1 S2 S S' : gS} {h : Nat}
theorem yR.draw {n : Nat} (Y : yR Z SX S1 S2 h S S') (h1 : 1 ≤ n) (h2 : n < 2 ^ 31) : ∃ v Sa Sb, v < n ∧ fX11_draw 5000 (nI n) S = some (nI v, Sa) ∧ fX12_drawOf 5000 (nI n) S' = some (nI v, Sb) ∧ yR Z SX S1 S2 h Sa Sb ∧ (∀ i j, ¬ (i = 0 ∧ j = 9) → Sa i j = S i j) ∧ (∀ i j, ¬ (i = 99 ∧ j = 56) → Sb i j = S' i j) := by
  obtain ⟨sd, d, qs, y1, y2, C, M, K, xs, y46, y4, ms⟩ := Y
  have hv : vN (sdN sd) < 2 ^ 31 := by
    unfold vN
    have := Nat.mod_lt ((sdN sd).toBitVec.toNat / 65536) (show 0 < 32768 by decide)
    omega
  refine ⟨vN (sdN sd) % n, sU S 0 9 (sdN sd), sU S' 99 56 (sdN sd), Nat.mod_lt _ (by omega), ?_, ?_, ⟨sdN sd, d, qs, sU_s, sU_s, C.any (Or.inr rfl) (fun i j hij => sU_n hij), M.on (mSame.rf.up rfl), K, xs.up rfl, fun j => by rw [sU_n (by omega)]; exact y46 j, by rw [sU_n (by omega)]; exact y4, fun i j a b c => ?_⟩, fun i j hij => sU_n hij, fun i j hij => sU_n hij⟩
  · unfold fX11_draw fX11_draw_b0
    dsimp only [lt]
    rw [y1, if_pos (show (1 : Int32) ≤ nI n from nI_le (a := 1) h1 h2)]
    unfold fX11_draw_b25
    rw [sU_s]
    show chk (nz (nI n)) (fX11_draw_b38 5000 ((((sdN sd).toUInt32 >>> ((16 : Int32).toUInt32 &&& Int32.toUInt32 31)).toInt32 &&& 32767 : Int32) - (((sdN sd).toUInt32 >>> ((16 : Int32).toUInt32 &&& Int32.toUInt32 31)).toInt32 &&& 32767 : Int32) / nI n * nI n) (sU S 0 9 (sdN sd))) = _
    rw [chk_t (nz_t (by omega) h2), ush_v, pk_rem hv (by omega) h2]
    rfl
  · unfold fX12_drawOf fX12_drawOf_b0
    dsimp only [lt]
    rw [y2, sU_s]
    show chk (nz (nI n)) (some ((((sdN sd) >>> ((16 : Int32) &&& 31)) &&& 32767 : Int32) - (((sdN sd) >>> ((16 : Int32) &&& 31)) &&& 32767 : Int32) / nI n * nI n, sU S' 99 56 (sdN sd))) = _
    rw [chk_t (nz_t (by omega) h2), ssh_v, pk_rem hv (by omega) h2]
  · rw [sU_n (fun q => by rw [q.1, q.2] at a; cases a)]
    exact ms i j a b c
/-- one GUILD's row put anew in the draft -/
theorem yR.row {g : Nat} {Sa Sb : gS} (Zk : tOK Z) (hg : g < tn1 Z) (Y : yR Z SX S1 S2 h S S') (nq : qT → qT) (hq : ∀ d qs, cSit 46 Z S h d qs → mSit Z S' h d (Z 5) qs → qsOK Z (Z 5) qs → qsOK Z (Z 5) (upq qs g (nq (qs g)))) (sa : ∀ i j, ¬ (47 ≤ i ∧ i ≤ 50 ∧ j = g) → Sa i j = S i j) (sb : ∀ i j, ¬ (32 ≤ i ∧ i ≤ 35 ∧ j = g) → Sb i j = S' i j)
    (ra : ∀ q : qT, S 47 g = q.1 → S 48 g = q.2.1 → S 49 g = q.2.2.1 → S 50 g = q.2.2.2 → Sa 47 g = (nq q).1 ∧ Sa 48 g = (nq q).2.1 ∧ Sa 49 g = (nq q).2.2.1 ∧ Sa 50 g = (nq q).2.2.2) (rb : ∀ q : qT, S' 32 g = q.1 → S' 33 g = q.2.1 → S' 34 g = q.2.2.1 → S' 35 g = q.2.2.2 → Sb 32 g = (nq q).1 ∧ Sb 33 g = (nq q).2.1 ∧ Sb 34 g = (nq q).2.2.1 ∧ Sb 35 g = (nq q).2.2.2) : yR Z SX S1 S2 h Sa Sb := by
  obtain ⟨sd, d, qs, y1, y2, C, M, K, xs, y46, y4, ms⟩ := Y
  have z6 := Zk.2.1.2
  obtain ⟨a1, a2, a3, a4⟩ := C.2.2.2 g hg
  obtain ⟨b1, b2, b3, b4⟩ := M.2.2.2.2 g hg
  obtain ⟨u1, u2, u3, u4⟩ := ra (qs g) a1 a2 a3 a4
  obtain ⟨v1, v2, v3, v4⟩ := rb (qs g) b1 b2 b3 b4
  refine ⟨sd, d, upq qs g (nq (qs g)), by rw [sa 0 9 (by omega)]; exact y1, by rw [sb 99 56 (by omega)]; exact y2, C.up (Or.inr rfl) sa u1 u2 u3 u4, M.up sb v1 v2 v3 v4, hq d qs C M K, fun i j hij => ?_, fun j => by rw [sb 46 j (by omega)]; exact y46 j, by rw [sb 99 4 (by omega)]; exact y4, fun i j a b c => ?_⟩
  · rw [sa i j (fun q => ?_)]
    · exact xs i j hij
    · rcases (show i = 47 ∨ i = 48 ∨ i = 49 ∨ i = 50 by omega) with r | r | r | r <;> rw [r] at hij <;> cases hij
  · rw [sb i j (fun q => ?_)]
    · exact ms i j a b c
    · rw [mPk_t.mpr (Or.inl (by omega))] at b
      cases b
theorem yR.hour {we : Int32} (Zk : tOK Z) (hb : h < 2 ^ 30) (Y : yR Z SX S1 S2 h S S') (hw : S' 99 41 = we) (hn : ¬ we = -1) (h0 : 0 ≤ we) : ∃ v Sa Sb, fX11_passHour 5000 46 we S = some (v, Sa) ∧ fX12_anHour 5000 S' = some (0, Sb) ∧ fX12_bitsOf 5000 (Sb 99 45) Sb = some (v, Sb) ∧ yR Z SX S1 S2 (h + 1) Sa Sb := by
  obtain ⟨sd, d, qs, y1, y2, C, M, K, xs, y46, y4, ms⟩ := Y
  have z6 := Zk.2.1.2
  obtain ⟨Sa, a1, a2, a3⟩ := x_hourAll (N := 5000) (we := we) (Or.inr rfl) Zk C K hb (by decide)
  obtain ⟨Sb, b1, b2, b3, b4⟩ := m_step (N := 5000) (we := we) Zk K.h hb (by decide) M (Or.inl ⟨hw, hn⟩) h0
  refine ⟨_, Sa, Sb, a1, b1, ?_, sd, d, _, by rw [a3 0 9 rfl]; exact y1, by rw [b4 99 56 rfl]; exact y2, a2, b2, K.nx, fun i j hij => ?_, fun j => by rw [b4 46 j rfl]; exact y46 j, by rw [b4 99 4 rfl]; exact y4, fun i j a b c => ?_⟩
  · rw [b3, m_bitsD (by omega) (by decide)]
  · rw [a3 i j (xHo_f ?_ ?_)]
    · exact xs i j hij
    · intro q
      rcases (show i = 46 ∨ i = 47 ∨ i = 48 ∨ i = 49 ∨ i = 50 by omega) with r | r | r | r | r <;> rw [r] at hij <;> cases hij
    · refine ⟨?_, ?_, ?_, ?_, ?_⟩ <;> intro q <;> rw [q] at hij <;> cases hij
  · rw [b4.q i j (by unfold mQ; rw [a, b]; rfl)]
    exact ms i j a b c
theorem yR.n (Zk : tOK Z) (Y : yR Z SX S1 S2 h S S') : S (xtw S) 0 = nI (tn0 Z) ∧ S (xtw S) 5 = nI (tn1 Z) ∧ S' 5 0 = nI (tn0 Z) ∧ S' 5 1 = nI (tn1 Z) := by
  obtain ⟨sd, d, qs, y1, y2, C, M, -⟩ := Y
  exact ⟨(C.1 0 0 (by omega) (by omega)).trans Zk.1.1, (C.1 0 5 (by omega) (by omega)).trans Zk.2.1.1, M.1.1, M.1.2.1⟩
theorem yR.holder {x : Int32} (Zk : tOK Z) (Y : yR Z SX S1 S2 h S S') : ∃ o, fX7_holderOf 5000 46 (xtw S) x S = some (o, S) ∧ fX12_hirerOf 5000 x S' = some (o, S') ∧ (o = -1 → ∀ g, g < tn1 Z → S 50 g ≠ x) := by
  obtain ⟨-, n5, -, n1⟩ := Y.n Zk
  have z6 := Zk.2.1.2
  obtain ⟨sd, d, qs, y1, y2, C, M, -⟩ := Y
  refine ⟨hoR (S 50) x (tn1 Z) 0, x_holderOf (N := 5000) n5 z6 (by decide), ?_, fun ho g hg => ?_⟩
  · rw [m_hirerOf (N := 5000) n1 z6 (by decide), hoR_eq (r := S' 35) (r' := S 50) (tn1 Z) 0 (fun i _ hi => (M.2.2.2.2 i (by omega)).2.2.2.trans (C.2.2.2 i (by omega)).2.2.2.symm)]
  · rcases hoR_cases (r := S 50) (x := x) (tn1 Z) 0 with ⟨o1, o2⟩ | ⟨g0, -, g1, o2, o1⟩
    · exact o2 g (by omega) (by omega)
    · rw [o1] at ho
      exact absurd ho (nI_nem (by omega))
/-- what chance does -/
theorem yR.chance {v : Nat} (Zk : tOK Z) (Y : yR Z SX S1 S2 h S S') (hv : v < 7) : ∃ Sa Sb, fX11_chance 5000 (nI v) S = some (0, Sa) ∧ (if (S' 5 0) ≤ 0 then fX12_something_b29 5000 (nI v) S' else fX12_something_b16 5000 (nI v) S') = fX12_something_b151 5000 Sb ∧ yR Z SX S1 S2 h Sa Sb := by
  obtain ⟨n0x, n1x, n0m, n1m⟩ := Y.n Zk
  have z6 := Zk.2.1.2
  have z8 := Zk.1.2
  have vn : ∀ b, b < 7 → (nI v = nI b ↔ v = b) := fun b hb => nI_eq (by omega) (by omega)
  have none80 : ∀ A, fX12_something_b80 5000 (nI v) 0 A = fX12_something_b151 5000 A := by
    intro A
    unfold fX12_something_b80 fX12_something_b85 fX12_something_b110 fX12_something_b115
    by_cases h1 : nI v = 1
    · rw [if_pos h1, if_pos rfl, if_neg (by rw [h1]; decide)]
    · rw [if_neg h1]
      by_cases h2 : nI v = 2
      · rw [if_pos h2, if_pos rfl]
      · rw [if_neg h2]
  have none29 : fX12_something_b29 5000 (nI v) S' = fX12_something_b151 5000 S' := by
    unfold fX12_something_b29 fX12_something_b30 fX12_something_b35
    by_cases h1 : nI v = 0
    · rw [if_pos h1, if_pos rfl, none80]
    · rw [if_neg h1, none80]
  by_cases e1 : tn1 Z = 0
  · refine ⟨S, S', ?_, ?_, Y⟩
    · unfold fX11_chance fX11_chance_b0
      dsimp only [lt]
      rw [n1x, e1, if_pos (show nI 0 = 0 from rfl)]
      rfl
    · by_cases h0 : S' 5 0 ≤ 0
      · rw [if_pos h0, none29]
      · rw [if_neg h0]
        unfold fX12_something_b16
        rw [n1m, e1, if_pos (show nI 0 ≤ 0 by decide), none29]
  by_cases e0 : tn0 Z = 0
  · refine ⟨S, S', ?_, ?_, Y⟩
    · unfold fX11_chance fX11_chance_b0
      dsimp only [lt]
      rw [n1x, if_neg (nI_ne0 (by omega) (by omega))]
      unfold fX11_chance_b10
      dsimp only [lt]
      rw [n0x, e0, if_pos (show nI 0 = 0 from rfl)]
      rfl
    · rw [n0m, e0, if_pos (show nI 0 ≤ 0 by decide), none29]
  have hX : fX11_chance 5000 (nI v) S = fX11_chance_b21 5000 (nI v) S := by
    unfold fX11_chance fX11_chance_b0
    dsimp only [lt]
    rw [n1x, if_neg (nI_ne0 (by omega) (by omega))]
    unfold fX11_chance_b10
    dsimp only [lt]
    rw [n0x, if_neg (nI_ne0 (by omega) (by omega))]
  have hM : (if (S' 5 0) ≤ 0 then fX12_something_b29 5000 (nI v) S' else fX12_something_b16 5000 (nI v) S') = fX12_something_b30 5000 (nI v) 1 S' := by
    rw [n0m, if_neg (nI_nle (by omega) (by omega))]
    unfold fX12_something_b16
    rw [n1m, if_neg (nI_nle (by omega) (by omega))]
    rfl
  rw [hX, hM]
  have one80 : ∀ A, ¬ v = 1 → ¬ v = 2 → fX12_something_b80 5000 (nI v) 1 A = fX12_something_b151 5000 A := by
    intro A h1 h2
    unfold fX12_something_b80 fX12_something_b110
    rw [if_neg (show ¬ nI v = 1 from fun q => h1 ((vn 1 (by omega)).mp q)), if_neg (show ¬ nI v = 2 from fun q => h2 ((vn 2 (by omega)).mp q))]
  by_cases v0 : v = 0
  · subst v0
    obtain ⟨g, A1, B1, hg, a1, b1, Y1, sa1, sb1⟩ := Y.draw (n := tn1 Z) (by omega) (by omega)
    obtain ⟨n0x1, n1x1, n0m1, n1m1⟩ := Y1.n Zk
    obtain ⟨k, A2, B2, hk, a2, b2, Y2, sa2, sb2⟩ := Y1.draw (n := tn0 Z) (by omega) (by omega)
    obtain ⟨o, o1, o2, o3⟩ := Y2.holder (x := nI k) Zk
    have hX2 : fX11_chance_b21 5000 (nI 0) S = if o = -1 then fX11_chance_b65 5000 (nI g) (nI k) A2 else fX11_chance_b75 5000 A2 := by
      show fX11_chance_b25 5000 S = _
      unfold fX11_chance_b25
      dsimp only [lt]
      rw [n1x, bnd_t a1]
      dsimp only
      rw [n0x1, bnd_t a2]
      dsimp only
      rw [bnd_t o1]
    have hM2 : fX12_something_b30 5000 (nI 0) 1 S' = if o = -1 then fX12_something_b72 5000 (nI 0) 1 (nI g) (nI k) B2 else fX12_something_b80 5000 (nI 0) 1 B2 := by
      show fX12_something_b39 5000 (nI 0) 1 S' = _
      unfold fX12_something_b39
      rw [n1m, bnd_t b1]
      dsimp only
      rw [n0m1, bnd_t b2]
      dsimp only
      rw [bnd_t o2]
    rw [hX2, hM2]
    by_cases ho : o = -1
    · rw [if_pos ho, if_pos ho]
      refine ⟨sU A2 50 g (nI k), sU B2 35 g (nI k), ?_, ?_, Y2.row (g := g) Zk hg (fun q => (q.1, q.2.1, q.2.2.1, nI k)) (fun d qs C M K => ?_) (fun i j hij => sU_n (by omega)) (fun i j hij => sU_n (by omega)) (fun q r1 r2 r3 r4 => ⟨?_, ?_, ?_, sU_s⟩) (fun q r1 r2 r3 r4 => ⟨?_, ?_, ?_, sU_s⟩)⟩
      · unfold fX11_chance_b65
        rw [chk_t (inb_t (by omega) (by decide)), nI_clamp (by omega)]
        rfl
      · unfold fX12_something_b72
        rw [chk_t (inb_t (by omega) (by decide)), nI_clamp (by omega)]
        exact one80 _ (by omega) (by omega)
      · have hq := K.1 g hg
        refine K.up ⟨hq.1, hq.2.1, hq.2.2.1, Or.inr ⟨k, hk, rfl⟩⟩ (Or.inr (fun g' hg' hne hh => ?_))
        exact o3 ho g' hg' ((C.2.2.2 g' hg').2.2.2.trans hh)
      · rw [sU_n (by omega)]; exact r1
      · rw [sU_n (by omega)]; exact r2
      · rw [sU_n (by omega)]; exact r3
      · rw [sU_n (by omega)]; exact r1
      · rw [sU_n (by omega)]; exact r2
      · rw [sU_n (by omega)]; exact r3
    · rw [if_neg ho, if_neg ho]
      exact ⟨A2, B2, rfl, one80 _ (by omega) (by omega), Y2⟩
  have hX3 : fX11_chance_b21 5000 (nI v) S = fX11_chance_b78 5000 (nI v) S := by
    unfold fX11_chance_b21
    rw [if_neg (show ¬ nI v = 0 from fun q => v0 ((vn 0 (by omega)).mp q))]
  have hM3 : fX12_something_b30 5000 (nI v) 1 S' = fX12_something_b80 5000 (nI v) 1 S' := by
    unfold fX12_something_b30
    rw [if_neg (show ¬ nI v = 0 from fun q => v0 ((vn 0 (by omega)).mp q))]
  rw [hX3, hM3]
  by_cases v1 : v = 1
  · subst v1
    obtain ⟨k, A1, B1, hk, a1, b1, Y1, sa1, sb1⟩ := Y.draw (n := tn0 Z) (by omega) (by omega)
    have hX4 : fX11_chance_b78 5000 (nI 1) S = some (0, sU A1 46 1 (A1 46 1 ^^^ ((1 : Int32) <<< (nI k &&& 31)))) := by
      show fX11_chance_b83 5000 S = _
      unfold fX11_chance_b83
      dsimp only [lt]
      rw [n0x, bnd_t a1]
      rfl
    have hM4 : fX12_something_b80 5000 (nI 1) 1 S' = fX12_something_b151 5000 (sU B1 99 38 (S' 99 38 ^^^ ((1 : Int32) <<< (nI k &&& 31)))) := by
      show fX12_something_b89 5000 (nI 1) 1 S' = _
      unfold fX12_something_b89
      rw [n0m, bnd_t b1]
      rfl
    rw [hX4, hM4]
    refine ⟨_, _, rfl, rfl, ?_⟩
    have e38 : B1 99 38 = S' 99 38 := sb1 99 38 (by omega)
    rw [← e38]
    obtain ⟨sd, d, qs, y1, y2, C, M, K, xs, y46, y4, ms⟩ := Y1
    obtain ⟨c1, c2, c3, c4⟩ := C
    obtain ⟨m1, m2, m3, m4, m5⟩ := M
    rw [c3, m4]
    obtain ⟨d', hd'⟩ : ∃ z, z = d ^^^ ((1 : Int32) <<< (nI k &&& 31)) := ⟨_, rfl⟩
    rw [← hd']
    have sx : ∀ i j, ¬ (i = 46 ∧ j = 1) → sU A1 46 1 d' i j = A1 i j := fun i j hij => sU_n hij
    have sm : ∀ i j, ¬ (i = 99 ∧ j = 38) → sU B1 99 38 d' i j = B1 i j := fun i j hij => sU_n hij
    have hT : xtw (sU A1 46 1 d') = xtw A1 := by
      unfold xtw
      rw [sx 0 7 (by omega)]
    refine ⟨sd, d', qs, by rw [sx 0 9 (by omega)]; exact y1, by rw [sm 99 56 (by omega)]; exact y2, ⟨?_, by rw [sx 46 0 (by omega)]; exact c2, sU_s, fun g hg => ?_⟩, ⟨m1.on (fun i j h1 h2 => sm i j (by omega)), fun g hg => by rw [sm 18 g (by omega)]; exact m2 g hg, by rw [sm 99 37 (by omega)]; exact m3, sU_s, fun g hg => by rw [sm 32 g (by omega), sm 33 g (by omega), sm 34 g (by omega), sm 35 g (by omega)]; exact m5 g hg⟩, K, xs.up rfl, fun j => by rw [sm 46 j (by omega)]; exact y46 j, by rw [sm 99 4 (by omega)]; exact y4, fun i j a b c => ?_⟩
    · rw [hT]
      intro i j h1 h2
      have := xtw_cases (S := A1)
      rw [sx _ _ (by omega)]
      exact c1 i j h1 h2
    · rw [sx _ _ (by omega), sx _ _ (by omega), sx _ _ (by omega), sx _ _ (by omega)]
      exact c4 g hg
    · rw [sm i j (fun q => by rw [q.1, q.2] at b; cases b)]
      exact ms i j a b c
  by_cases v2 : v = 2
  · subst v2
    obtain ⟨g, A1, B1, hg, a1, b1, Y1, sa1, sb1⟩ := Y.draw (n := tn1 Z) (by omega) (by omega)
    have hgc : (nI g).toNatClampNeg = g := nI_clamp (by omega)
    have hin : inb (nI g) 6 = true := inb_t (by omega) (by decide)
    have hX4 : fX11_chance_b78 5000 (nI 2) S = some (0, sU A1 48 g (if A1 48 g + 20 < 999 then A1 48 g + 20 else 999)) := by
      show fX11_chance_b109 5000 S = _
      unfold fX11_chance_b109
      dsimp only [lt]
      rw [n1x, bnd_t a1]
      dsimp only
      unfold fX7_enrich fX7_enrich_b0
      rw [if_neg (nI_pos (by omega))]
      unfold fX7_enrich_b4
      rw [if_neg (show ¬ (6 : Int32) ≤ nI g from nI_ge (b := 6) (by omega) (by decide))]
      unfold fX7_enrich_b13
      rw [chk_t hin, chk_t hin, hgc]
      rfl
    have hM4 : fX12_something_b80 5000 (nI 2) 1 S' = fX12_something_b151 5000 (sU B1 33 g (if B1 33 g + 20 < 999 then B1 33 g + 20 else 999)) := by
      show fX12_something_b119 5000 S' = _
      unfold fX12_something_b119
      rw [n1m, bnd_t b1]
      dsimp only [lt]
      rw [chk_t hin, chk_t hin, hgc]
    rw [hX4, hM4]
    refine ⟨_, _, rfl, rfl, Y1.row (g := g) Zk hg (fun q => (q.1, (if q.2.1 + 20 < 999 then q.2.1 + 20 else 999), q.2.2)) (fun d qs C M K => ?_) (fun i j hij => sU_n (by omega)) (fun i j hij => sU_n (by omega)) (fun q r1 r2 r3 r4 => ⟨?_, ?_, ?_, ?_⟩) (fun q r1 r2 r3 r4 => ⟨?_, ?_, ?_, ?_⟩)⟩
    · have hq := K.1 g hg
      refine K.up ⟨hq.1, ?_, hq.2.2⟩ ?_
      · show 0 ≤ (if (qs g).2.1 + 20 < 999 then (qs g).2.1 + 20 else 999) ∧ (if (qs g).2.1 + 20 < 999 then (qs g).2.1 + 20 else 999) ≤ 999
        obtain ⟨y, hy, ey⟩ := i32_999 hq.2.1
        rw [ey, show (20 : Int32) = nI 20 from rfl, nI_add]
        by_cases hl : nI (y + 20) < 999
        · rw [if_pos hl]
          exact ⟨nI_pos' (by omega), Int32.le_of_lt hl⟩
        · rw [if_neg hl]
          decide
      · by_cases hm : (qs g).2.2.2 = -1
        · exact Or.inl hm
        · exact Or.inr (fun g' hg' hne hh => hne (K.2.1 g' g hg' hg hh (fun q => hm (hh.symm.trans q))))
    · rw [sU_n (by omega)]; exact r1
    · rw [sU_s, r2]
    · rw [sU_n (by omega)]; exact r3
    · rw [sU_n (by omega)]; exact r4
    · rw [sU_n (by omega)]; exact r1
    · rw [sU_s, r2]
    · rw [sU_n (by omega)]; exact r3
    · rw [sU_n (by omega)]; exact r4
  · refine ⟨S, S', ?_, one80 S' v1 v2, Y⟩
    unfold fX11_chance_b78
    rw [if_neg (show ¬ nI v = 1 from fun q => v1 ((vn 1 (by omega)).mp q))]
    unfold fX11_chance_b104
    rw [if_neg (show ¬ nI v = 2 from fun q => v2 ((vn 2 (by omega)).mp q))]
    rfl
theorem yR.wet {x : Int32} (Y : yR Z SX S1 S2 h S S') : yR Z SX S1 S2 h S (sU S' 99 41 x) := by
  obtain ⟨sd, d, qs, y1, y2, C, M, K, xs, y46, y4, ms⟩ := Y
  exact ⟨sd, d, qs, y1, by rw [sU_n (by omega)]; exact y2, C, M.up41, K, xs, fun j => by rw [sU_n (by omega)]; exact y46 j, by rw [sU_n (by omega)]; exact y4, fun i j a b c => by rw [sU_n c]; exact ms i j a b c⟩
end
theorem or_bit {c : Nat → Bool} {k : Nat} (hk : k < 8) : drB c 8 0 0 ||| ((1 : Int32) <<< (nI k &&& 31)) = drB (fun i => c i || decide (i = k)) 8 0 0 := by
  refine bb_ext (fun i hi => ?_)
  rw [bb_or, bb_pow k (by omega) i hi, bb_drB hi 8 0 0 (by omega), bb_drB hi 8 0 0 (by omega), bb_0]
  by_cases h : i = k
  · rw [decide_eq_true h, decide_eq_true (p := 0 ≤ i) (by omega), decide_eq_true (p := i < 0 + 8) (by omega)]
    simp
  · rw [decide_eq_false h]
    simp
theorem hbR_bits {row : Nat → Int32} : ∀ (m k : Nat) (c : Nat → Bool), (∀ g, k ≤ g → g < k + m → row g = -1 ∨ ∃ q : Nat, q < 8 ∧ row g = nI q) → ∃ c', hbR row m k (drB c 8 0 0) = drB c' 8 0 0 := by
  intro m
  induction m with
  | zero => intro k c _; exact ⟨c, rfl⟩
  | succ m ih =>
    intro k c h
    show ∃ c', hbR row m (k + 1) (if row k = -1 then drB c 8 0 0 else drB c 8 0 0 ||| ((1 : Int32) <<< (row k &&& 31))) = drB c' 8 0 0
    rcases h k (Nat.le_refl _) (by omega) with h1 | ⟨q, q8, h1⟩
    · rw [if_pos h1]
      exact ih (k + 1) c (fun g a b => h g (by omega) (by omega))
    · rw [if_neg (by rw [h1]; exact nI_nem (by omega)), h1, or_bit q8]
      exact ih (k + 1) _ (fun g a b => h g (by omega) (by omega))
theorem st_years : Lw_years JJ := by
  intro SX SM x1 x2 x3 hJ
  obtain ⟨S1, Z, h, qs, hS1, c0, hJ1, Zk, h9, C, M, K, w41, x0, x5⟩ := pre hJ
  have z6 := Zk.2.1.2
  have z8 := Zk.1.2
  have hF : fX12_years 5000 x1 x2 x3 SM = if iv (wth x3 0 2) = 0 then fX12_years_b17 5000 S1 else if iv (wth x2 0 60) = 0 then fX12_years_b35 5000 S1 else fX12_years_b41 5000 x1 x2 x3 S1 := by
    unfold fX12_years fX12_years_b0
    dsimp only [lt]
    rw [← hS1, bnd_t in_0_2]
    unfold fX12_years_b23
    rw [bnd_t in_0_60]
  cases h3 : wth x3 0 2 with
  | false =>
    refine stFl 5000 5000 1 hJ one_ne (Or.inr (Or.inl rfl)) (nwF h3) ?_
    show fX12_years 5000 x1 x2 x3 SM = _
    rw [hF, h3, ← hS1]
    rfl
  | true =>
  cases h2 : wth x2 0 60 with
  | false =>
    refine stFl 5000 5000 2 hJ two_ne (Or.inr (Or.inr rfl)) ((nwT h3).trans (niF h2)) ?_
    show fX12_years 5000 x1 x2 x3 SM = _
    rw [hF, h3, h2, ← hS1]
    rfl
  | true =>
  obtain ⟨n, -, n2, rfl⟩ := wth_of (a := 0) (b := 60) (by decide) (by decide) h2
  obtain ⟨X2, a1, a2, a3, a4⟩ := x_copy7 (N := 5000) (k0 := 46) (k1 := 21) (S := SX) (by decide) (by decide)
  obtain ⟨S2, k1, k2, k3⟩ := q_pk (N := 5000) (S1 := S1) (nd := 46) (Or.inl rfl) (by decide)
  have hX : fX11_years 5000 x1 (nI n) x3 SX = fX11_years_h37 5000 5000 (nI n) x3 0 0 (sU X2 0 9 x1) := by
    refine (nwT h3).trans ((niT h2).trans ?_)
    dsimp only
    rw [bnd_t a1]
    rfl
  have hM : fX12_years 5000 x1 (nI n) x3 SM = fX12_years_h61 5000 5000 (nI n) x3 0 0 (sU S2 99 56 x1) := by
    rw [hF, h3, h2]
    show fX12_years_b41 5000 x1 (nI n) x3 S1 = _
    unfold fX12_years_b41
    rw [bnd_t k1]
    rfl
  have s2 : mSame S1 S2 := fun i j hij => k2 i j (fun q => by rw [q] at hij; cases hij)
  have Y0 : yR Z SX S1 S2 h (sU X2 0 9 x1) (sU S2 99 56 x1) := by
    have hT : xtw (sU X2 0 9 x1) = xtw SX := by
      unfold xtw
      rw [sU_n (by omega), a2 0 7 (by omega)]
    refine ⟨x1, SX 21 1, qs, sU_s, sU_s, ⟨?_, ?_, ?_, fun g hg => ?_⟩, (M.on s2).on (mSame.rf.up rfl), K, fun i j hij => ?_, fun j => by rw [sU_n (by omega)], by rw [sU_n (by omega), k2 99 4 (by omega)]; exact c0, fun i j a b c => ?_⟩
    · rw [hT]
      intro i j h1 h2
      have := xtw_cases (S := SX)
      rw [sU_n (by omega), a2 _ _ (by omega)]
      exact C.1 i j h1 h2
    · rw [sU_n (by omega), a3 0 (by omega)]; exact C.2.1
    · rw [sU_n (by omega), a3 1 (by omega)]
    · rw [sU_n (by omega), sU_n (by omega), sU_n (by omega), sU_n (by omega)]
      obtain ⟨q1, q2, q3, q4⟩ := a4 g (by omega)
      rw [q1, q2, q3, q4]
      exact C.2.2.2 g hg
    · rw [sU_n (fun q => by rw [q.1, q.2] at hij; cases hij), a2 i j (fun q => ?_)]
      rcases (show i = 46 ∨ i = 47 ∨ i = 48 ∨ i = 49 ∨ i = 50 by omega) with r | r | r | r | r <;> rw [r] at hij <;> cases hij
    · rw [sU_n (fun q => by rw [q.1, q.2] at a; cases a)]
      exact s2 i j a
  obtain ⟨rx, rm, b1, b2, b3⟩ := loop2 (A := Int32 × gS) (B := Int32 × gS) (fun f k a => fX11_years_h37 5000 f (nI n) x3 a.1 (nI k) a.2) (fun f k a => fX12_years_h61 5000 f (nI n) x3 a.1 (nI k) a.2) (fun k a b => a.1 = b.1 ∧ yR Z SX S1 S2 (h + k) a.2 b.2) (fun r r' => r.1 = 0 ∧ r.2.1 = r'.1 ∧ xSame SX r.2.2 ∧ mSame S1 r'.2 ∧ r'.2 99 4 = 0) n (by
      rintro f f' ⟨v, S⟩ ⟨v', S'⟩ ⟨i1, Y⟩
      dsimp only at i1 Y
      subst i1
      obtain ⟨m0x, m1x, m0m, m1m⟩ := Y.n Zk
      have Y2 := Y.wet (x := -1)
      obtain ⟨sd, d, qs', y1, y2, C', M', K', xs, y46, y4, ms⟩ := Y2
      obtain ⟨S4, u1, u2⟩ := k3 (sU S' 99 41 (-1)) y46
      have hs4 : mSame S1 S4 := by
        intro i j hij
        rw [u2 i j]
        by_cases hp : mPk i j = true
        · rw [if_pos hp]
        · rw [if_neg hp]
          by_cases h41 : i = 99 ∧ j = 41
          · rw [h41.1, h41.2, sU_s]; exact w41.symm
          · exact ms i j hij (Bool.not_eq_true _ |>.mp hp) h41
      have h44 : S4 99 4 = 0 := by
        rw [u2 99 4]
        exact y4
      have fin : ∀ x, fX12_years_b130 5000 x (sU S' 99 41 (-1)) = some (x, S4) := fun x => by
        unfold fX12_years_b130
        rw [bnd_t u1]
      have hXe : fX11_years_h37 5000 (f + 1) (nI n) x3 v (nI n) S = fX11_years_b77 5000 x3 v S := by
        show fX11_years_b37 5000 _ (nI n) x3 v (nI n) S = _
        unfold fX11_years_b37
        rw [if_pos (nI_le (Nat.le_refl _) (by omega))]
      have hMe : fX12_years_h61 5000 (f' + 1) (nI n) x3 v (nI n) S' = if x3 = 0 then fX12_years_b102 5000 v (sU S' 99 41 (-1)) else fX12_years_b107 5000 x3 (sU S' 99 41 (-1)) := by
        show fX12_years_b61 5000 _ (nI n) x3 v (nI n) S' = _
        unfold fX12_years_b61
        rw [if_pos (nI_le (Nat.le_refl _) (by omega))]
        rfl
      obtain ⟨y, -, yy, e3⟩ := wth_of (a := 0) (b := 2) (by decide) (by decide) h3
      rcases (show y = 0 ∨ y = 1 ∨ y = 2 by omega) with rfl | rfl | rfl
      · refine ⟨(0, v, S), (v, S4), ?_, ?_, rfl, rfl, xs, hs4, h44⟩
        · show fX11_years_h37 5000 (f + 1) (nI n) x3 v (nI n) S = _
          rw [hXe, e3]
          rfl
        · show fX12_years_h61 5000 (f' + 1) (nI n) x3 v (nI n) S' = _
          rw [hMe, e3]
          exact fin v
      · refine ⟨(0, sumR (S (46 + 2)) (tn1 Z) 0 0, S), (sumR (S (46 + 2)) (tn1 Z) 0 0, S4), ?_, ?_, rfl, rfl, xs, hs4, h44⟩
        · show fX11_years_h37 5000 (f + 1) (nI n) x3 v (nI n) S = _
          rw [hXe, e3]
          show fX11_years_b107 5000 S = _
          unfold fX11_years_b107
          dsimp only [lt]
          rw [bnd_t (x_purses (N := 5000) m1x z6 (by decide))]
        · show fX12_years_h61 5000 (f' + 1) (nI n) x3 v (nI n) S' = _
          rw [hMe, e3]
          show fX12_years_b112 5000 (sU S' 99 41 (-1)) = _
          unfold fX12_years_b112
          rw [bnd_t (m_sumOf (N := 5000) (n := tn1 Z) M'.1.2.1 z6 rfl (by decide)), sumR_eq (r := sU S' 99 41 (-1) 33) (r' := S (46 + 2)) (tn1 Z) 0 0 (fun i _ hi => (M'.2.2.2.2 i (by omega)).2.1.trans (C'.2.2.2 i (by omega)).2.1.symm)]
          exact fin _
      · obtain ⟨c', hc'⟩ := hbR_bits (row := S (46 + 4)) (tn1 Z) 0 (fun _ => false) (fun g _ hg => by
          rw [(C'.2.2.2 g (by omega)).2.2.2]
          rcases (K'.1 g (by omega)).2.2.2 with q | ⟨k, q1, q2⟩
          · exact Or.inl q
          · exact Or.inr ⟨k, by omega, q2⟩)
        have hc' : hbR (S (46 + 4)) (tn1 Z) 0 0 = drB c' 8 0 0 := hc'
        refine ⟨(0, nI (cntB c' 8), S), (nI (cntB c' 8), S4), ?_, ?_, rfl, rfl, xs, hs4, h44⟩
        · show fX11_years_h37 5000 (f + 1) (nI n) x3 v (nI n) S = _
          rw [hXe, e3]
          show fX11_years_b119 5000 S = _
          unfold fX11_years_b119
          dsimp only [lt]
          rw [bnd_t (x_hiredBits (N := 5000) m1x z6 (by decide)), hc']
          dsimp only
          rw [bnd_t (x_bitsD (by decide))]
        · show fX12_years_h61 5000 (f' + 1) (nI n) x3 v (nI n) S' = _
          rw [hMe, e3]
          show fX12_years_b123 5000 (sU S' 99 41 (-1)) = _
          unfold fX12_years_b123
          rw [bnd_t (m_hiredNow (N := 5000) (n := tn1 Z) M'.1.2.1 z6 (by decide)), hbR_eq (r := sU S' 99 41 (-1) 35) (r' := S (46 + 4)) (tn1 Z) 0 0 (fun i _ hi => (M'.2.2.2.2 i (by omega)).2.2.2.trans (C'.2.2.2 i (by omega)).2.2.2.symm), hc']
          dsimp only
          rw [bnd_t (m_bitsD (by decide) (by decide))]
          exact fin _) (by
      rintro f f' k ⟨v, S⟩ ⟨v', S'⟩ hk ⟨i1, Y⟩
      dsimp only at i1 Y
      subst i1
      obtain ⟨u, A1, B1, hu, a1, b1, Y1, -, -⟩ := Y.draw (n := 7) (by decide) (by decide)
      obtain ⟨A2, B2, a2, b2, Y2⟩ := Y1.chance Zk hu
      obtain ⟨we, A3, B3, hwe, a3, b3, Y3, -, -⟩ := Y2.draw (n := 4) (by decide) (by decide)
      obtain ⟨cn, A4, B4, a4, b4, b5, Y4⟩ := (Y3.wet (x := nI we)).hour Zk (by omega) sU_s (nI_nem (by omega)) (nI_pos' (by omega))
      refine ⟨(v + cn, A4), (v + cn, B4), ⟨rfl, Y4⟩, ?_, ?_⟩
      · show fX11_years_b37 5000 (fX11_years_h37 5000 f) (nI n) x3 v (nI k) S = _
        unfold fX11_years_b37
        rw [if_neg (nI_ge hk (by omega))]
        unfold fX11_years_b43
        rw [bnd_t (show fX11_draw 5000 7 S = some (nI u, A1) from a1)]
        dsimp only
        rw [bnd_t a2]
        dsimp only
        rw [bnd_t (show fX11_draw 5000 4 A2 = some (nI we, A3) from a3)]
        dsimp only
        rw [bnd_t a4, nI_1]
      · show fX12_years_b61 5000 (fX12_years_h61 5000 f') (nI n) x3 v (nI k) S' = _
        unfold fX12_years_b61
        rw [if_neg (nI_ge hk (by omega))]
        unfold fX12_years_b67
        have hs : fX12_something 5000 S' = some (0, sU B3 99 41 (nI we)) := by
          unfold fX12_something fX12_something_b0
          rw [bnd_t (show fX12_drawOf 5000 7 S' = some (nI u, B1) from b1)]
          dsimp only
          rw [b2]
          unfold fX12_something_b151
          rw [bnd_t (show fX12_drawOf 5000 4 B2 = some (nI we, B3) from b3)]
          rfl
        rw [bnd_t hs]
        dsimp only
        rw [bnd_t b4]
        dsimp only
        rw [bnd_t b5, nI_1]) n 0 (0, sU X2 0 9 x1) (0, sU S2 99 56 x1) 5000 5000 (by omega) ⟨rfl, Y0⟩ (by omega) (by omega)
  refine stSu 5000 5000 rm.1 hJ rfl (Or.inl rfl) ⟨rx, ?_, b3.1, b3.2.1, b3.2.2.1⟩ ⟨rm, ?_, rfl, by rw [← hS1]; exact b3.2.2.2.1, b3.2.2.2.2⟩
  · show fX11_years 5000 x1 (nI n) x3 SX = _
    rw [hX]
    exact b1
  · show fX12_years 5000 x1 (nI n) x3 SM = _
    rw [hM]
    exact b2
