/-! part 61.ayears -/
section
/-! years -/
noncomputable def sdN (s : Int32) : Int32 := s * 1103515245 + 12345
noncomputable def vN (s : Int32) : Nat := s.toBitVec.toNat / 65536 % 32768
theorem ush_v (s : Int32) : ((s.toUInt32 >>> ((16 : Int32).toUInt32 &&& Int32.toUInt32 31)).toInt32 &&& 32767 : Int32) = nI (vN s) := by
  rw [pk_and (m := 32767) _ 15 rfl, pk_ushr s 16 16 rfl]
  rfl
theorem bb_32767 : ∀ i, i < 32 → bb 32767 i = decide (i < 15) := by decide +kernel
theorem ssh_v (s : Int32) : ((s >>> ((16 : Int32) &&& 31)) &&& 32767 : Int32) = nI (vN s) := by
  rw [← ush_v s]
  refine bb_ext (fun i hi => ?_)
  rw [bb_and, bb_and, bb_32767 i hi]
  by_cases h15 : i < 15
  · rw [decide_eq_true h15, Bool.and_true, Bool.and_true, show ((16 : Int32) &&& 31) = (nI 16 &&& 31) from rfl, bb_sshr 16 (by decide) s hi, if_pos (by omega)]
    unfold bb
    rw [← BitVec.testBit_toNat, ← BitVec.testBit_toNat, pk_ushr s 16 16 rfl, Nat.testBit_div_two_pow, Nat.add_comm]
  · rw [decide_eq_false h15, Bool.and_false, Bool.and_false]
def yR (Z SX S1 S2 : gS) (h : Nat) (S S' : gS) : Prop := ∃ (sd d : Int32) (qs : Nat → qT), S 0 9 = sd ∧ S' 99 56 = sd ∧ cSit 46 Z S h d qs ∧ mSit Z S' h d (Z 5) qs ∧ qsOK Z (Z 5) qs ∧ xSame SX S ∧ (∀ j, S' 46 j = S2 46 j) ∧ S' 99 4 = 0 ∧ (∀ i j, mScr i j = false → mPk i j = false → ¬ (i = 99 ∧ j = 41) → S' i j = S1 i j)
theorem cSit.any {nd : Nat} {Z S S' : gS} {h : Nat} {d : Int32} {qs : Nat → qT} (hnd : nd = 21 ∨ nd = 46) (C : cSit nd Z S h d qs) (s : ∀ i j, ¬ (i = 0 ∧ j = 9) → S' i j = S i j) : cSit nd Z S' h d qs := by
  obtain ⟨c1, c2, c3, c4⟩ := C
  have hT : xtw S' = xtw S := by
    unfold xtw
    rw [s 0 7 (by omega)]
  refine ⟨?_, by rw [s nd 0 (by omega)]; exact c2, by rw [s nd 1 (by omega)]; exact c3, fun g hg => ?_⟩
  · rw [hT]
    intro i j h1 h2
    have := xtw_cases (S := S)
    rw [s (xtw S + i) j (by omega)]
    exact c1 i j h1 h2
  · rw [s _ _ (by omega), s _ _ (by omega), s _ _ (by omega), s _ _ (by omega)]
    exact c4 g hg
section
variable {Z SX S1 S2 S S' : gS} {h : Nat}
theorem yR.draw {n : Nat} (Y : yR Z SX S1 S2 h S S') (h1 : 1 ≤ n) (h2 : n < 2 ^ 31) : ∃ v Sa Sb, v < n ∧ fX11_draw 5000 (nI n) S = some (nI v, Sa) ∧ fX12_drawOf 5000 (nI n) S' = some (nI v, Sb) ∧ yR Z SX S1 S2 h Sa Sb ∧ (∀ i j, ¬ (i = 0 ∧ j = 9) → Sa i j = S i j) ∧ (∀ i j, ¬ (i = 99 ∧ j = 56) → Sb i j = S' i j) := by
  obtain ⟨sd, d, qs, y1, y2, C, M, K, xs, y46, y4, ms⟩ := Y
  have hv : vN (sdN sd) < 2 ^ 31 := by
    unfold vN
    have := Nat.mod_lt ((sdN sd).toBitVec.toNat / 65536) (show 0 < 32768 by decide)
    omega
  refine ⟨vN (sdN sd) % n, sU S 0 9 (sdN sd), sU S' 99 56 (sdN sd), Nat.mod_lt _ (by omega), ?_, ?_, ⟨sdN sd, d, qs, sU_s, sU_s, C.any (Or.inr rfl) (fun i j hij => sU_n hij), M.on (mSame.rf.up rfl), K, xs.up rfl, fun j => by rw [sU_n (by omega)]; exact y46 j, by rw [sU_n (by omega)]; exact y4, fun i j a b c => ?_⟩, fun i j hij => sU_n hij, fun i j hij => sU_n hij⟩
  · unfold fX11_draw fX11_draw_b0
    dsimp only [lt]
    rw [y1, if_pos (show (1 : Int32) ≤ nI n from nI_le (a := 1) h1 h2)]
    unfold fX11_draw_b25
    rw [sU_s]
    show chk (nz (nI n)) (fX11_draw_b38 5000 ((((sdN sd).toUInt32 >>> ((16 : Int32).toUInt32 &&& Int32.toUInt32 31)).toInt32 &&& 32767 : Int32) - (((sdN sd).toUInt32 >>> ((16 : Int32).toUInt32 &&& Int32.toUInt32 31)).toInt32 &&& 32767 : Int32) / nI n * nI n) (sU S 0 9 (sdN sd))) = _
    rw [chk_t (nz_t (by omega) h2), ush_v, pk_rem hv (by omega) h2]
    rfl
  · unfold fX12_drawOf fX12_drawOf_b0
    dsimp only [lt]
    rw [y2, sU_s]
    show chk (nz (nI n)) (some ((((sdN sd) >>> ((16 : Int32) &&& 31)) &&& 32767 : Int32) - (((sdN sd) >>> ((16 : Int32) &&& 31)) &&& 32767 : Int32) / nI n * nI n, sU S' 99 56 (sdN sd))) = _
    rw [chk_t (nz_t (by omega) h2), ssh_v, pk_rem hv (by omega) h2]
  · rw [sU_n (fun q => by rw [q.1, q.2] at a; cases a)]
    exact ms i j a b c
/-- one GUILD's row put anew in the draft -/
theorem yR.row {g : Nat} {Sa Sb : gS} (Zk : tOK Z) (hg : g < tn1 Z) (Y : yR Z SX S1 S2 h S S') (nq : qT → qT) (hq : ∀ d qs, cSit 46 Z S h d qs → mSit Z S' h d (Z 5) qs → qsOK Z (Z 5) qs → qsOK Z (Z 5) (upq qs g (nq (qs g)))) (sa : ∀ i j, ¬ (47 ≤ i ∧ i ≤ 50 ∧ j = g) → Sa i j = S i j) (sb : ∀ i j, ¬ (32 ≤ i ∧ i ≤ 35 ∧ j = g) → Sb i j = S' i j)
    (ra : ∀ q : qT, S 47 g = q.1 → S 48 g = q.2.1 → S 49 g = q.2.2.1 → S 50 g = q.2.2.2 → Sa 47 g = (nq q).1 ∧ Sa 48 g = (nq q).2.1 ∧ Sa 49 g = (nq q).2.2.1 ∧ Sa 50 g = (nq q).2.2.2) (rb : ∀ q : qT, S' 32 g = q.1 → S' 33 g = q.2.1 → S' 34 g = q.2.2.1 → S' 35 g = q.2.2.2 → Sb 32 g = (nq q).1 ∧ Sb 33 g = (nq q).2.1 ∧ Sb 34 g = (nq q).2.2.1 ∧ Sb 35 g = (nq q).2.2.2) : yR Z SX S1 S2 h Sa Sb := by
  obtain ⟨sd, d, qs, y1, y2, C, M, K, xs, y46, y4, ms⟩ := Y
  have z6 := Zk.2.1.2
  obtain ⟨a1, a2, a3, a4⟩ := C.2.2.2 g hg
  obtain ⟨b1, b2, b3, b4⟩ := M.2.2.2.2 g hg
  obtain ⟨u1, u2, u3, u4⟩ := ra (qs g) a1 a2 a3 a4
  obtain ⟨v1, v2, v3, v4⟩ := rb (qs g) b1 b2 b3 b4
  refine ⟨sd, d, upq qs g (nq (qs g)), by rw [sa 0 9 (by omega)]; exact y1, by rw [sb 99 56 (by omega)]; exact y2, C.up (Or.inr rfl) sa u1 u2 u3 u4, M.up sb v1 v2 v3 v4, hq d qs C M K, fun i j hij => ?_, fun j => by rw [sb 46 j (by omega)]; exact y46 j, by rw [sb 99 4 (by omega)]; exact y4, fun i j a b c => ?_⟩
  · rw [sa i j (fun q => ?_)]
    · exact xs i j hij
    · rcases (show i = 47 ∨ i = 48 ∨ i = 49 ∨ i = 50 by omega) with r | r | r | r <;> rw [r] at hij <;> cases hij
  · rw [sb i j (fun q => ?_)]
    · exact ms i j a b c
    · rw [mPk_t.mpr (Or.inl (by omega))] at b
      cases b
theorem yR.hour {we : Int32} (Zk : tOK Z) (hb : h < 2 ^ 30) (Y : yR Z SX S1 S2 h S S') (hw : S' 99 41 = we) (hn : ¬ we = -1) (h0 : 0 ≤ we) : ∃ v Sa Sb, fX11_passHour 5000 46 we S = some (v, Sa) ∧ fX12_anHour 5000 S' = some (0, Sb) ∧ fX12_bitsOf 5000 (Sb 99 45) Sb = some (v, Sb) ∧ yR Z SX S1 S2 (h + 1) Sa Sb := by
  obtain ⟨sd, d, qs, y1, y2, C, M, K, xs, y46, y4, ms⟩ := Y
  have z6 := Zk.2.1.2
  obtain ⟨Sa, a1, a2, a3⟩ := x_hourAll (N := 5000) (we := we) (Or.inr rfl) Zk C K hb (by decide)
  obtain ⟨Sb, b1, b2, b3, b4⟩ := m_step (N := 5000) (we := we) Zk K.h hb (by decide) M (Or.inl ⟨hw, hn⟩) h0
  refine ⟨_, Sa, Sb, a1, b1, ?_, sd, d, _, by rw [a3 0 9 rfl]; exact y1, by rw [b4 99 56 rfl]; exact y2, a2, b2, K.nx, fun i j hij => ?_, fun j => by rw [b4 46 j rfl]; exact y46 j, by rw [b4 99 4 rfl]; exact y4, fun i j a b c => ?_⟩
  · rw [b3, m_bitsD (by omega) (by decide)]
  · rw [a3 i j (xHo_f ?_ ?_)]
    · exact xs i j hij
    · intro q
      rcases (show i = 46 ∨ i = 47 ∨ i = 48 ∨ i = 49 ∨ i = 50 by omega) with r | r | r | r | r <;> rw [r] at hij <;> cases hij
    · refine ⟨?_, ?_, ?_, ?_, ?_⟩ <;> intro q <;> rw [q] at hij <;> cases hij
  · rw [b4.q i j (by unfold mQ; rw [a, b]; rfl)]
    exact ms i j a b c
theorem yR.n (Zk : tOK Z) (Y : yR Z SX S1 S2 h S S') : S (xtw S) 0 = nI (tn0 Z) ∧ S (xtw S) 5 = nI (tn1 Z) ∧ S' 5 0 = nI (tn0 Z) ∧ S' 5 1 = nI (tn1 Z) := by
  obtain ⟨sd, d, qs, y1, y2, C, M, -⟩ := Y
  exact ⟨(C.1 0 0 (by omega) (by omega)).trans Zk.1.1, (C.1 0 5 (by omega) (by omega)).trans Zk.2.1.1, M.1.1, M.1.2.1⟩
theorem yR.holder {x : Int32} (Zk : tOK Z) (Y : yR Z SX S1 S2 h S S') : ∃ o, fX7_holderOf 5000 46 (xtw S) x S = some (o, S) ∧ fX12_hirerOf 5000 x S' = some (o, S') ∧ (o = -1 → ∀ g, g < tn1 Z → S 50 g ≠ x) := by
  obtain ⟨-, n5, -, n1⟩ := Y.n Zk
  have z6 := Zk.2.1.2
  obtain ⟨sd, d, qs, y1, y2, C, M, -⟩ := Y
  refine ⟨hoR (S 50) x (tn1 Z) 0, x_holderOf (N := 5000) n5 z6 (by decide), ?_, fun ho g hg => ?_⟩
  · rw [m_hirerOf (N := 5000) n1 z6 (by decide), hoR_eq (r := S' 35) (r' := S 50) (tn1 Z) 0 (fun i _ hi => (M.2.2.2.2 i (by omega)).2.2.2.trans (C.2.2.2 i (by omega)).2.2.2.symm)]
  · rcases hoR_cases (r := S 50) (x := x) (tn1 Z) 0 with ⟨o1, o2⟩ | ⟨g0, -, g1, o2, o1⟩
    · exact o2 g (by omega) (by omega)
    · rw [o1] at ho
      exact absurd ho (nI_nem (by omega))
/-- what chance does -/
theorem yR.chance {v : Nat} (Zk : tOK Z) (Y : yR Z SX S1 S2 h S S') (hv : v < 7) : ∃ Sa Sb, fX11_chance 5000 (nI v) S = some (0, Sa) ∧ (if (S' 5 0) ≤ 0 then fX12_something_b29 5000 (nI v) S' else fX12_something_b16 5000 (nI v) S') = fX12_something_b151 5000 Sb ∧ yR Z SX S1 S2 h Sa Sb := by
  obtain ⟨n0x, n1x, n0m, n1m⟩ := Y.n Zk
  have z6 := Zk.2.1.2
  have z8 := Zk.1.2
  have vn : ∀ b, b < 7 → (nI v = nI b ↔ v = b) := fun b hb => nI_eq (by omega) (by omega)
  have none80 : ∀ A, fX12_something_b80 5000 (nI v) 0 A = fX12_something_b151 5000 A := by
    intro A
    unfold fX12_something_b80 fX12_something_b85 fX12_something_b110 fX12_something_b115
    by_cases h1 : nI v = 1
    · rw [if_pos h1, if_pos rfl, if_neg (by rw [h1]; decide)]
    · rw [if_neg h1]
      by_cases h2 : nI v = 2
      · rw [if_pos h2, if_pos rfl]
      · rw [if_neg h2]
  have none29 : fX12_something_b29 5000 (nI v) S' = fX12_something_b151 5000 S' := by
    unfold fX12_something_b29 fX12_something_b30 fX12_something_b35
    by_cases h1 : nI v = 0
    · rw [if_pos h1, if_pos rfl, none80]
    · rw [if_neg h1, none80]
  by_cases e1 : tn1 Z = 0
  · refine ⟨S, S', ?_, ?_, Y⟩
    · unfold fX11_chance fX11_chance_b0
      dsimp only [lt]
      rw [n1x, e1, if_pos (show nI 0 = 0 from rfl)]
      rfl
    · by_cases h0 : S' 5 0 ≤ 0
      · rw [if_pos h0, none29]
      · rw [if_neg h0]
        unfold fX12_something_b16
        rw [n1m, e1, if_pos (show nI 0 ≤ 0 by decide), none29]
  by_cases e0 : tn0 Z = 0
  · refine ⟨S, S', ?_, ?_, Y⟩
    · unfold fX11_chance fX11_chance_b0
      dsimp only [lt]
      rw [n1x, if_neg (nI_ne0 (by omega) (by omega))]
      unfold fX11_chance_b10
      dsimp only [lt]
      rw [n0x, e0, if_pos (show nI 0 = 0 from rfl)]
      rfl
    · rw [n0m, e0, if_pos (show nI 0 ≤ 0 by decide), none29]
  have hX : fX11_chance 5000 (nI v) S = fX11_chance_b21 5000 (nI v) S := by
    unfold fX11_chance fX11_chance_b0
    dsimp only [lt]
    rw [n1x, if_neg (nI_ne0 (by omega) (by omega))]
    unfold fX11_chance_b10
    dsimp only [lt]
    rw [n0x, if_neg (nI_ne0 (by omega) (by omega))]
  have hM : (if (S' 5 0) ≤ 0 then fX12_something_b29 5000 (nI v) S' else fX12_something_b16 5000 (nI v) S') = fX12_something_b30 5000 (nI v) 1 S' := by
    rw [n0m, if_neg (nI_nle (by omega) (by omega))]
    unfold fX12_something_b16
    rw [n1m, if_neg (nI_nle (by omega) (by omega))]
    rfl
  rw [hX, hM]
  have one80 : ∀ A, ¬ v = 1 → ¬ v = 2 → fX12_something_b80 5000 (nI v) 1 A = fX12_something_b151 5000 A := by
    intro A h1 h2
    unfold fX12_something_b80 fX12_something_b110
    rw [if_neg (show ¬ nI v = 1 from fun q => h1 ((vn 1 (by omega)).mp q)), if_neg (show ¬ nI v = 2 from fun q => h2 ((vn 2 (by omega)).mp q))]
  by_cases v0 : v = 0
  · subst v0
    obtain ⟨g, A1, B1, hg, a1, b1, Y1, sa1, sb1⟩ := Y.draw (n := tn1 Z) (by omega) (by omega)
    obtain ⟨n0x1, n1x1, n0m1, n1m1⟩ := Y1.n Zk
    obtain ⟨k, A2, B2, hk, a2, b2, Y2, sa2, sb2⟩ := Y1.draw (n := tn0 Z) (by omega) (by omega)
    obtain ⟨o, o1, o2, o3⟩ := Y2.holder (x := nI k) Zk
    have hX2 : fX11_chance_b21 5000 (nI 0) S = if o = -1 then fX11_chance_b65 5000 (nI g) (nI k) A2 else fX11_chance_b75 5000 A2 := by
      show fX11_chance_b25 5000 S = _
      unfold fX11_chance_b25
      dsimp only [lt]
      rw [n1x, bnd_t a1]
      dsimp only
      rw [n0x1, bnd_t a2]
      dsimp only
      rw [bnd_t o1]
    have hM2 : fX12_something_b30 5000 (nI 0) 1 S' = if o = -1 then fX12_something_b72 5000 (nI 0) 1 (nI g) (nI k) B2 else fX12_something_b80 5000 (nI 0) 1 B2 := by
      show fX12_something_b39 5000 (nI 0) 1 S' = _
      unfold fX12_something_b39
      rw [n1m, bnd_t b1]
      dsimp only
      rw [n0m1, bnd_t b2]
      dsimp only
      rw [bnd_t o2]
    rw [hX2, hM2]
    by_cases ho : o = -1
    · rw [if_pos ho, if_pos ho]
      refine ⟨sU A2 50 g (nI k), sU B2 35 g (nI k), ?_, ?_, Y2.row (g := g) Zk hg (fun q => (q.1, q.2.1, q.2.2.1, nI k)) (fun d qs C M K => ?_) (fun i j hij => sU_n (by omega)) (fun i j hij => sU_n (by omega)) (fun q r1 r2 r3 r4 => ⟨?_, ?_, ?_, sU_s⟩) (fun q r1 r2 r3 r4 => ⟨?_, ?_, ?_, sU_s⟩)⟩
      · unfold fX11_chance_b65
        rw [chk_t (inb_t (by omega) (by decide)), nI_clamp (by omega)]
        rfl
      · unfold fX12_something_b72
        rw [chk_t (inb_t (by omega) (by decide)), nI_clamp (by omega)]
        exact one80 _ (by omega) (by omega)
      · have hq := K.1 g hg
        refine K.up ⟨hq.1, hq.2.1, hq.2.2.1, Or.inr ⟨k, hk, rfl⟩⟩ (Or.inr (fun g' hg' hne hh => ?_))
        exact o3 ho g' hg' ((C.2.2.2 g' hg').2.2.2.trans hh)
      · rw [sU_n (by omega)]; exact r1
      · rw [sU_n (by omega)]; exact r2
      · rw [sU_n (by omega)]; exact r3
      · rw [sU_n (by omega)]; exact r1
      · rw [sU_n (by omega)]; exact r2
      · rw [sU_n (by omega)]; exact r3
    · rw [if_neg ho, if_neg ho]
      exact ⟨A2, B2, rfl, one80 _ (by omega) (by omega), Y2⟩
  have hX3 : fX11_chance_b21 5000 (nI v) S = fX11_chance_b78 5000 (nI v) S := by
    unfold fX11_chance_b21
    rw [if_neg (show ¬ nI v = 0 from fun q => v0 ((vn 0 (by omega)).mp q))]
  have hM3 : fX12_something_b30 5000 (nI v) 1 S' = fX12_something_b80 5000 (nI v) 1 S' := by
    unfold fX12_something_b30
    rw [if_neg (show ¬ nI v = 0 from fun q => v0 ((vn 0 (by omega)).mp q))]
  rw [hX3, hM3]
  by_cases v1 : v = 1
  · subst v1
    obtain ⟨k, A1, B1, hk, a1, b1, Y1, sa1, sb1⟩ := Y.draw (n := tn0 Z) (by omega) (by omega)
    have hX4 : fX11_chance_b78 5000 (nI 1) S = some (0, sU A1 46 1 (A1 46 1 ^^^ ((1 : Int32) <<< (nI k &&& 31)))) := by
      show fX11_chance_b83 5000 S = _
      unfold fX11_chance_b83
      dsimp only [lt]
      rw [n0x, bnd_t a1]
      rfl
    have hM4 : fX12_something_b80 5000 (nI 1) 1 S' = fX12_something_b151 5000 (sU B1 99 38 (S' 99 38 ^^^ ((1 : Int32) <<< (nI k &&& 31)))) := by
      show fX12_something_b89 5000 (nI 1) 1 S' = _
      unfold fX12_something_b89
      rw [n0m, bnd_t b1]
      rfl
    rw [hX4, hM4]
    refine ⟨_, _, rfl, rfl, ?_⟩
    have e38 : B1 99 38 = S' 99 38 := sb1 99 38 (by omega)
    rw [← e38]
    obtain ⟨sd, d, qs, y1, y2, C, M, K, xs, y46, y4, ms⟩ := Y1
    obtain ⟨c1, c2, c3, c4⟩ := C
    obtain ⟨m1, m2, m3, m4, m5⟩ := M
    rw [c3, m4]
    obtain ⟨d', hd'⟩ : ∃ z, z = d ^^^ ((1 : Int32) <<< (nI k &&& 31)) := ⟨_, rfl⟩
    rw [← hd']
    have sx : ∀ i j, ¬ (i = 46 ∧ j = 1) → sU A1 46 1 d' i j = A1 i j := fun i j hij => sU_n hij
    have sm : ∀ i j, ¬ (i = 99 ∧ j = 38) → sU B1 99 38 d' i j = B1 i j := fun i j hij => sU_n hij
    have hT : xtw (sU A1 46 1 d') = xtw A1 := by
      unfold xtw
      rw [sx 0 7 (by omega)]
    refine ⟨sd, d', qs, by rw [sx 0 9 (by omega)]; exact y1, by rw [sm 99 56 (by omega)]; exact y2, ⟨?_, by rw [sx 46 0 (by omega)]; exact c2, sU_s, fun g hg => ?_⟩, ⟨m1.on (fun i j h1 h2 => sm i j (by omega)), fun g hg => by rw [sm 18 g (by omega)]; exact m2 g hg, by rw [sm 99 37 (by omega)]; exact m3, sU_s, fun g hg => by rw [sm 32 g (by omega), sm 33 g (by omega), sm 34 g (by omega), sm 35 g (by omega)]; exact m5 g hg⟩, K, xs.up rfl, fun j => by rw [sm 46 j (by omega)]; exact y46 j, by rw [sm 99 4 (by omega)]; exact y4, fun i j a b c => ?_⟩
    · rw [hT]
      intro i j h1 h2
      have := xtw_cases (S := A1)
      rw [sx _ _ (by omega)]
      exact c1 i j h1 h2
    · rw [sx _ _ (by omega), sx _ _ (by omega), sx _ _ (by omega), sx _ _ (by omega)]
      exact c4 g hg
    · rw [sm i j (fun q => by rw [q.1, q.2] at b; cases b)]
      exact ms i j a b c
  by_cases v2 : v = 2
  · subst v2
    obtain ⟨g, A1, B1, hg, a1, b1, Y1, sa1, sb1⟩ := Y.draw (n := tn1 Z) (by omega) (by omega)
    have hgc : (nI g).toNatClampNeg = g := nI_clamp (by omega)
    have hin : inb (nI g) 6 = true := inb_t (by omega) (by decide)
    have hX4 : fX11_chance_b78 5000 (nI 2) S = some (0, sU A1 48 g (if A1 48 g + 20 < 999 then A1 48 g + 20 else 999)) := by
      show fX11_chance_b109 5000 S = _
      unfold fX11_chance_b109
      dsimp only [lt]
      rw [n1x, bnd_t a1]
      dsimp only
      unfold fX7_enrich fX7_enrich_b0
      rw [if_neg (nI_pos (by omega))]
      unfold fX7_enrich_b4
      rw [if_neg (show ¬ (6 : Int32) ≤ nI g from nI_ge (b := 6) (by omega) (by decide))]
      unfold fX7_enrich_b13
      rw [chk_t hin, chk_t hin, hgc]
      rfl
    have hM4 : fX12_something_b80 5000 (nI 2) 1 S' = fX12_something_b151 5000 (sU B1 33 g (if B1 33 g + 20 < 999 then B1 33 g + 20 else 999)) := by
      show fX12_something_b119 5000 S' = _
      unfold fX12_something_b119
      rw [n1m, bnd_t b1]
      dsimp only [lt]
      rw [chk_t hin, chk_t hin, hgc]
    rw [hX4, hM4]
    refine ⟨_, _, rfl, rfl, Y1.row (g := g) Zk hg (fun q => (q.1, (if q.2.1 + 20 < 999 then q.2.1 + 20 else 999), q.2.2)) (fun d qs C M K => ?_) (fun i j hij => sU_n (by omega)) (fun i j hij => sU_n (by omega)) (fun q r1 r2 r3 r4 => ⟨?_, ?_, ?_, ?_⟩) (fun q r1 r2 r3 r4 => ⟨?_, ?_, ?_, ?_⟩)⟩
    · have hq := K.1 g hg
      refine K.up ⟨hq.1, ?_, hq.2.2⟩ ?_
      · show 0 ≤ (if (qs g).2.1 + 20 < 999 then (qs g).2.1 + 20 else 999) ∧ (if (qs g).2.1 + 20 < 999 then (qs g).2.1 + 20 else 999) ≤ 999
        obtain ⟨y, hy, ey⟩ := i32_999 hq.2.1
        rw [ey, show (20 : Int32) = nI 20 from rfl, nI_add]
        by_cases hl : nI (y + 20) < 999
        · rw [if_pos hl]
          exact ⟨nI_pos' (by omega), Int32.le_of_lt hl⟩
        · rw [if_neg hl]
          decide
      · by_cases hm : (qs g).2.2.2 = -1
        · exact Or.inl hm
        · exact Or.inr (fun g' hg' hne hh => hne (K.2.1 g' g hg' hg hh (fun q => hm (hh.symm.trans q))))
    · rw [sU_n (by omega)]; exact r1
    · rw [sU_s, r2]
    · rw [sU_n (by omega)]; exact r3
    · rw [sU_n (by omega)]; exact r4
    · rw [sU_n (by omega)]; exact r1
    · rw [sU_s, r2]
    · rw [sU_n (by omega)]; exact r3
    · rw [sU_n (by omega)]; exact r4
  · refine ⟨S, S', ?_, one80 S' v1 v2, Y⟩
    unfold fX11_chance_b78
    rw [if_neg (show ¬ nI v = 1 from fun q => v1 ((vn 1 (by omega)).mp q))]
    unfold fX11_chance_b104
    rw [if_neg (show ¬ nI v = 2 from fun q => v2 ((vn 2 (by omega)).mp q))]
    rfl
theorem yR.wet {x : Int32} (Y : yR Z SX S1 S2 h S S') : yR Z SX S1 S2 h S (sU S' 99 41 x) := by
  obtain ⟨sd, d, qs, y1, y2, C, M, K, xs, y46, y4, ms⟩ := Y
  exact ⟨sd, d, qs, y1, by rw [sU_n (by omega)]; exact y2, C, M.up41, K, xs, fun j => by rw [sU_n (by omega)]; exact y46 j, by rw [sU_n (by omega)]; exact y4, fun i j a b c => by rw [sU_n c]; exact ms i j a b c⟩
end
theorem or_bit {c : Nat → Bool} {k : Nat} (hk : k < 8) : drB c 8 0 0 ||| ((1 : Int32) <<< (nI k &&& 31)) = drB (fun i => c i || decide (i = k)) 8 0 0 := by
  refine bb_ext (fun i hi => ?_)
  rw [bb_or, bb_pow k (by omega) i hi, bb_drB hi 8 0 0 (by omega), bb_drB hi 8 0 0 (by omega), bb_0]
  by_cases h : i = k
  · rw [decide_eq_true h, decide_eq_true (p := 0 ≤ i) (by omega), decide_eq_true (p := i < 0 + 8) (by omega)]
    simp
  · rw [decide_eq_false h]
    simp
theorem hbR_bits {row : Nat → Int32} : ∀ (m k : Nat) (c : Nat → Bool), (∀ g, k ≤ g → g < k + m → row g = -1 ∨ ∃ q : Nat, q < 8 ∧ row g = nI q) → ∃ c', hbR row m k (drB c 8 0 0) = drB c' 8 0 0 := by
  intro m
  induction m with
  | zero => intro k c _; exact ⟨c, rfl⟩
  | succ m ih =>
    intro k c h
    show ∃ c', hbR row m (k + 1) (if row k = -1 then drB c 8 0 0 else drB c 8 0 0 ||| ((1 : Int32) <<< (row k &&& 31))) = drB c' 8 0 0
    rcases h k (Nat.le_refl _) (by omega) with h1 | ⟨q, q8, h1⟩
    · rw [if_pos h1]
      exact ih (k + 1) c (fun g a b => h g (by omega) (by omega))
    · rw [if_neg (by rw [h1]; exact nI_nem (by omega)), h1, or_bit q8]
      exact ih (k + 1) _ (fun g a b => h g (by omega) (by omega))
theorem st_years : Lw_years JJ := by
  intro SX SM x1 x2 x3 hJ
  obtain ⟨S1, Z, h, qs, hS1, c0, hJ1, Zk, h9, C, M, K, w41, x0, x5⟩ := pre hJ
  have z6 := Zk.2.1.2
  have z8 := Zk.1.2
  have hF : fX12_years 5000 x1 x2 x3 SM = if iv (wth x3 0 2) = 0 then fX12_years_b17 5000 S1 else if iv (wth x2 0 60) = 0 then fX12_years_b35 5000 S1 else fX12_years_b41 5000 x1 x2 x3 S1 := by
    unfold fX12_years fX12_years_b0
    dsimp only [lt]
    rw [← hS1, bnd_t in_0_2]
    unfold fX12_years_b23
    rw [bnd_t in_0_60]
  cases h3 : wth x3 0 2 with
  | false =>
    refine stFl 5000 5000 1 hJ one_ne (Or.inr (Or.inl rfl)) (nwF h3) ?_
    show fX12_years 5000 x1 x2 x3 SM = _
    rw [hF, h3, ← hS1]
    rfl
  | true =>
  cases h2 : wth x2 0 60 with
  | false =>
    refine stFl 5000 5000 2 hJ two_ne (Or.inr (Or.inr rfl)) ((nwT h3).trans (niF h2)) ?_
    show fX12_years 5000 x1 x2 x3 SM = _
    rw [hF, h3, h2, ← hS1]
    rfl
  | true =>
  obtain ⟨n, -, n2, rfl⟩ := wth_of (a := 0) (b := 60) (by decide) (by decide) h2
  obtain ⟨X2, a1, a2, a3, a4⟩ := x_copy7 (N := 5000) (k0 := 46) (k1 := 21) (S := SX) (by decide) (by decide)
  obtain ⟨S2, k1, k2, k3⟩ := q_pk (N := 5000) (S1 := S1) (nd := 46) (Or.inl rfl) (by decide)
  have hX : fX11_years 5000 x1 (nI n) x3 SX = fX11_years_h37 5000 5000 (nI n) x3 0 0 (sU X2 0 9 x1) := by
    refine (nwT h3).trans ((niT h2).trans ?_)
    dsimp only
    rw [bnd_t a1]
    rfl
  have hM : fX12_years 5000 x1 (nI n) x3 SM = fX12_years_h61 5000 5000 (nI n) x3 0 0 (sU S2 99 56 x1) := by
    rw [hF, h3, h2]
    show fX12_years_b41 5000 x1 (nI n) x3 S1 = _
    unfold fX12_years_b41
    rw [bnd_t k1]
    rfl
  have s2 : mSame S1 S2 := fun i j hij => k2 i j (fun q => by rw [q] at hij; cases hij)
  have Y0 : yR Z SX S1 S2 h (sU X2 0 9 x1) (sU S2 99 56 x1) := by
    have hT : xtw (sU X2 0 9 x1) = xtw SX := by
      unfold xtw
      rw [sU_n (by omega), a2 0 7 (by omega)]
    refine ⟨x1, SX 21 1, qs, sU_s, sU_s, ⟨?_, ?_, ?_, fun g hg => ?_⟩, (M.on s2).on (mSame.rf.up rfl), K, fun i j hij => ?_, fun j => by rw [sU_n (by omega)], by rw [sU_n (by omega), k2 99 4 (by omega)]; exact c0, fun i j a b c => ?_⟩
    · rw [hT]
      intro i j h1 h2
      have := xtw_cases (S := SX)
      rw [sU_n (by omega), a2 _ _ (by omega)]
      exact C.1 i j h1 h2
    · rw [sU_n (by omega), a3 0 (by omega)]; exact C.2.1
    · rw [sU_n (by omega), a3 1 (by omega)]
    · rw [sU_n (by omega), sU_n (by omega), sU_n (by omega), sU_n (by omega)]
      obtain ⟨q1, q2, q3, q4⟩ := a4 g (by omega)
      rw [q1, q2, q3, q4]
      exact C.2.2.2 g hg
    · rw [sU_n (fun q => by rw [q.1, q.2] at hij; cases hij), a2 i j (fun q => ?_)]
      rcases (show i = 46 ∨ i = 47 ∨ i = 48 ∨ i = 49 ∨ i = 50 by omega) with r | r | r | r | r <;> rw [r] at hij <;> cases hij
    · rw [sU_n (fun q => by rw [q.1, q.2] at a; cases a)]
      exact s2 i j a
  obtain ⟨rx, rm, b1, b2, b3⟩ := loop2 (A := Int32 × gS) (B := Int32 × gS) (fun f k a => fX11_years_h37 5000 f (nI n) x3 a.1 (nI k) a.2) (fun f k a => fX12_years_h61 5000 f (nI n) x3 a.1 (nI k) a.2) (fun k a b => a.1 = b.1 ∧ yR Z SX S1 S2 (h + k) a.2 b.2) (fun r r' => r.1 = 0 ∧ r.2.1 = r'.1 ∧ xSame SX r.2.2 ∧ mSame S1 r'.2 ∧ r'.2 99 4 = 0) n (by
      rintro f f' ⟨v, S⟩ ⟨v', S'⟩ ⟨i1, Y⟩
      dsimp only at i1 Y
      subst i1
      obtain ⟨m0x, m1x, m0m, m1m⟩ := Y.n Zk
      have Y2 := Y.wet (x := -1)
      obtain ⟨sd, d, qs', y1, y2, C', M', K', xs, y46, y4, ms⟩ := Y2
      obtain ⟨S4, u1, u2⟩ := k3 (sU S' 99 41 (-1)) y46
      have hs4 : mSame S1 S4 := by
        intro i j hij
        rw [u2 i j]
        by_cases hp : mPk i j = true
        · rw [if_pos hp]
        · rw [if_neg hp]
          by_cases h41 : i = 99 ∧ j = 41
          · rw [h41.1, h41.2, sU_s]; exact w41.symm
          · exact ms i j hij (Bool.not_eq_true _ |>.mp hp) h41
      have h44 : S4 99 4 = 0 := by
        rw [u2 99 4]
        exact y4
      have fin : ∀ x, fX12_years_b130 5000 x (sU S' 99 41 (-1)) = some (x, S4) := fun x => by
        unfold fX12_years_b130
        rw [bnd_t u1]
      have hXe : fX11_years_h37 5000 (f + 1) (nI n) x3 v (nI n) S = fX11_years_b77 5000 x3 v S := by
        show fX11_years_b37 5000 _ (nI n) x3 v (nI n) S = _
        unfold fX11_years_b37
        rw [if_pos (nI_le (Nat.le_refl _) (by omega))]
      have hMe : fX12_years_h61 5000 (f' + 1) (nI n) x3 v (nI n) S' = if x3 = 0 then fX12_years_b102 5000 v (sU S' 99 41 (-1)) else fX12_years_b107 5000 x3 (sU S' 99 41 (-1)) := by
        show fX12_years_b61 5000 _ (nI n) x3 v (nI n) S' = _
        unfold fX12_years_b61
        rw [if_pos (nI_le (Nat.le_refl _) (by omega))]
        rfl
      obtain ⟨y, -, yy, e3⟩ := wth_of (a := 0) (b := 2) (by decide) (by decide) h3
      rcases (show y = 0 ∨ y = 1 ∨ y = 2 by omega) with rfl | rfl | rfl
      · refine ⟨(0, v, S), (v, S4), ?_, ?_, rfl, rfl, xs, hs4, h44⟩
        · show fX11_years_h37 5000 (f + 1) (nI n) x3 v (nI n) S = _
          rw [hXe, e3]
          rfl
        · show fX12_years_h61 5000 (f' + 1) (nI n) x3 v (nI n) S' = _
          rw [hMe, e3]
          exact fin v
      · refine ⟨(0, sumR (S (46 + 2)) (tn1 Z) 0 0, S), (sumR (S (46 + 2)) (tn1 Z) 0 0, S4), ?_, ?_, rfl, rfl, xs, hs4, h44⟩
        · show fX11_years_h37 5000 (f + 1) (nI n) x3 v (nI n) S = _
          rw [hXe, e3]
          show fX11_years_b107 5000 S = _
          unfold fX11_years_b107
          dsimp only [lt]
          rw [bnd_t (x_purses (N := 5000) m1x z6 (by decide))]
        · show fX12_years_h61 5000 (f' + 1) (nI n) x3 v (nI n) S' = _
          rw [hMe, e3]
          show fX12_years_b112 5000 (sU S' 99 41 (-1)) = _
          unfold fX12_years_b112
          rw [bnd_t (m_sumOf (N := 5000) (n := tn1 Z) M'.1.2.1 z6 rfl (by decide)), sumR_eq (r := sU S' 99 41 (-1) 33) (r' := S (46 + 2)) (tn1 Z) 0 0 (fun i _ hi => (M'.2.2.2.2 i (by omega)).2.1.trans (C'.2.2.2 i (by omega)).2.1.symm)]
          exact fin _
      · obtain ⟨c', hc'⟩ := hbR_bits (row := S (46 + 4)) (tn1 Z) 0 (fun _ => false) (fun g _ hg => by
          rw [(C'.2.2.2 g (by omega)).2.2.2]
          rcases (K'.1 g (by omega)).2.2.2 with q | ⟨k, q1, q2⟩
          · exact Or.inl q
          · exact Or.inr ⟨k, by omega, q2⟩)
        have hc' : hbR (S (46 + 4)) (tn1 Z) 0 0 = drB c' 8 0 0 := hc'
        refine ⟨(0, nI (cntB c' 8), S), (nI (cntB c' 8), S4), ?_, ?_, rfl, rfl, xs, hs4, h44⟩
        · show fX11_years_h37 5000 (f + 1) (nI n) x3 v (nI n) S = _
          rw [hXe, e3]
          show fX11_years_b119 5000 S = _
          unfold fX11_years_b119
          dsimp only [lt]
          rw [bnd_t (x_hiredBits (N := 5000) m1x z6 (by decide)), hc']
          dsimp only
          rw [bnd_t (x_bitsD (by decide))]
        · show fX12_years_h61 5000 (f' + 1) (nI n) x3 v (nI n) S' = _
          rw [hMe, e3]
          show fX12_years_b123 5000 (sU S' 99 41 (-1)) = _
          unfold fX12_years_b123
          rw [bnd_t (m_hiredNow (N := 5000) (n := tn1 Z) M'.1.2.1 z6 (by decide)), hbR_eq (r := sU S' 99 41 (-1) 35) (r' := S (46 + 4)) (tn1 Z) 0 0 (fun i _ hi => (M'.2.2.2.2 i (by omega)).2.2.2.trans (C'.2.2.2 i (by omega)).2.2.2.symm), hc']
          dsimp only
          rw [bnd_t (m_bitsD (by decide) (by decide))]
          exact fin _) (by
      rintro f f' k ⟨v, S⟩ ⟨v', S'⟩ hk ⟨i1, Y⟩
      dsimp only at i1 Y
      subst i1
      obtain ⟨u, A1, B1, hu, a1, b1, Y1, -, -⟩ := Y.draw (n := 7) (by decide) (by decide)
      obtain ⟨A2, B2, a2, b2, Y2⟩ := Y1.chance Zk hu
      obtain ⟨we, A3, B3, hwe, a3, b3, Y3, -, -⟩ := Y2.draw (n := 4) (by decide) (by decide)
      obtain ⟨cn, A4, B4, a4, b4, b5, Y4⟩ := (Y3.wet (x := nI we)).hour Zk (by omega) sU_s (nI_nem (by omega)) (nI_pos' (by omega))
      refine ⟨(v + cn, A4), (v + cn, B4), ⟨rfl, Y4⟩, ?_, ?_⟩
      · show fX11_years_b37 5000 (fX11_years_h37 5000 f) (nI n) x3 v (nI k) S = _
        unfold fX11_years_b37
        rw [if_neg (nI_ge hk (by omega))]
        unfold fX11_years_b43
        rw [bnd_t (show fX11_draw 5000 7 S = some (nI u, A1) from a1)]
        dsimp only
        rw [bnd_t a2]
        dsimp only
        rw [bnd_t (show fX11_draw 5000 4 A2 = some (nI we, A3) from a3)]
        dsimp only
        rw [bnd_t a4, nI_1]
      · show fX12_years_b61 5000 (fX12_years_h61 5000 f') (nI n) x3 v (nI k) S' = _
        unfold fX12_years_b61
        rw [if_neg (nI_ge hk (by omega))]
        unfold fX12_years_b67
        have hs : fX12_something 5000 S' = some (0, sU B3 99 41 (nI we)) := by
          unfold fX12_something fX12_something_b0
          rw [bnd_t (show fX12_drawOf 5000 7 S' = some (nI u, B1) from b1)]
          dsimp only
          rw [b2]
          unfold fX12_something_b151
          rw [bnd_t (show fX12_drawOf 5000 4 B2 = some (nI we, B3) from b3)]
          rfl
        rw [bnd_t hs]
        dsimp only
        rw [bnd_t b4]
        dsimp only
        rw [bnd_t b5, nI_1]) n 0 (0, sU X2 0 9 x1) (0, sU S2 99 56 x1) 5000 5000 (by omega) ⟨rfl, Y0⟩ (by omega) (by omega)
  refine stSu 5000 5000 rm.1 hJ rfl (Or.inl rfl) ⟨rx, ?_, b3.1, b3.2.1, b3.2.2.1⟩ ⟨rm, ?_, rfl, by rw [← hS1]; exact b3.2.2.2.1, b3.2.2.2.2⟩
  · show fX11_years 5000 x1 (nI n) x3 SX = _
    rw [hX]
    exact b1
  · show fX12_years 5000 x1 (nI n) x3 SM = _
    rw [hM]
    exact b2
end

/-! part 62.agame -/
section
/-! a game -/
noncomputable def quV (Z : gS) (e d : Int32) (h : Nat) (q : qT) : Int32 := nI (cntB (fun k => !trB Z e d (wetZ Z) h q k) 8)
noncomputable def chq (c : Nat) (q : qT) : qT := if c = 1 then cfq q else q
theorem x_quiet {Z SX S : gS} {h g c : Nat} {d : Int32} {qs : Nat → qT} (Zk : tOK Z) (C : cSit 21 Z SX h d qs) (K : qsOK Z (Z 5) qs) (hg : g < tn1 Z) (h9 : h ≤ 999) (hc : c ≤ 1) (h50 : c = 1 → ¬ (qs g).2.1 < 50) (s : oSame xWk SX S) : ∃ S', fX11_quietHours 5000 (nI g) (nI c) S = some (quV Z (Z 5 g) d h (chq c (qs g)), S') ∧ oSame xWk SX S' := by
  have C' := C.on (Or.inl rfl) s
  obtain ⟨X1, b1, b2, b3⟩ := x_begin (N := 5000) (Or.inl rfl) Zk C' hg (by omega)
  have hq : qOK (tn0 Z) (chq c (qs g)) := by
    unfold chq
    by_cases h1 : c = 1
    · rw [if_pos h1]; exact cfq_ok (K.1 g hg) (h50 h1)
    · rw [if_neg h1]; exact K.1 g hg
  have he := K.2.2 g hg
  have loop : ∀ X, wkA X (Z 5 g) d (nI h) (chq c (qs g)) → oSame xWk SX X → ∃ S', fX11_quietHours_h36 5000 5000 0 0 X = some (quV Z (Z 5 g) d h (chq c (qs g)), S') ∧ oSame xWk SX S' := by
    intro X W sX
    have main : Gv (fX11_quietHours_h36 5000 5000 0 0 X) (fun r => r.1 = quV Z (Z 5 g) d h (chq c (qs g)) ∧ oSame xWk SX r.2) := by
      refine loopG (A := gS) (fun f k S => fX11_quietHours_h36 5000 f (nI (cntB (fun k => !trB Z (Z 5 g) d (wetZ Z) h (chq c (qs g)) k) k)) (nI k) S) (fun k S' => wkA S' (Z 5 g) d (nI (h + k)) (trj Z (Z 5 g) d (wetZ Z) h (chq c (qs g)) k) ∧ oSame xWk SX S') _ 8 ?_ ?_ 8 0 X 5000 (by omega) ⟨W, sX⟩ (by omega)
      · rintro f S1 ⟨i1, i2⟩
        exact ⟨(quV Z (Z 5 g) d h (chq c (qs g)), S1), rfl, rfl, i2⟩
      · rintro f k S1 hk ⟨i1, i2⟩
        have hT : tXz (xtw SX) Z S1 := C.1.on xtw_cases i2
        obtain ⟨S2, r1, r2, r3⟩ := x_passHour (N := 5000) (we := wetZ Z (h + k)) xtw_cases Zk hT (trj_ok hq he k) he i1 (by decide)
        rw [nI_1] at r2
        refine Or.inr ⟨S2, ⟨r2, i2.tr r3⟩, ?_⟩
        have hF : fX11_quietHours_h36 5000 (f + 1) (nI (cntB (fun k => !trB Z (Z 5 g) d (wetZ Z) h (chq c (qs g)) k) k)) (nI k) S1 = if iv (trB Z (Z 5 g) d (wetZ Z) h (chq c (qs g)) k) = 0 then fX11_quietHours_b71 5000 (fX11_quietHours_h36 5000 f) (nI (cntB (fun k => !trB Z (Z 5 g) d (wetZ Z) h (chq c (qs g)) k) k)) (nI k) S2 else fX11_quietHours_b74 5000 (fX11_quietHours_h36 5000 f) (nI (cntB (fun k => !trB Z (Z 5 g) d (wetZ Z) h (chq c (qs g)) k) k)) (nI k) S2 := by
          show fX11_quietHours_b36 5000 (fX11_quietHours_h36 5000 f) _ (nI k) S1 = _
          unfold fX11_quietHours_b36
          rw [if_neg (show ¬ (8 : Int32) ≤ nI k from nI_ge (b := 8) hk (by decide))]
          unfold fX11_quietHours_b43
          dsimp only [lt]
          rw [xWk.tw i2, i1.2.2.2.2.2.1, bnd_t (x_wetZ Zk hT (by omega))]
          dsimp only
          rw [bnd_t r1]
          rfl
        show fX11_quietHours_h36 5000 (f + 1) _ (nI k) S1 = fX11_quietHours_h36 5000 f (nI (cntB (fun k => !trB Z (Z 5 g) d (wetZ Z) h (chq c (qs g)) k) k + if (!trB Z (Z 5 g) d (wetZ Z) h (chq c (qs g)) k) = true then 1 else 0)) (nI (k + 1)) S2
        rw [hF]
        cases hb : trB Z (Z 5 g) d (wetZ Z) h (chq c (qs g)) k with
        | false =>
          show fX11_quietHours_b71 5000 (fX11_quietHours_h36 5000 f) (nI (cntB (fun k => !trB Z (Z 5 g) d (wetZ Z) h (chq c (qs g)) k) k)) (nI k) S2 = fX11_quietHours_h36 5000 f (nI (cntB (fun k => !trB Z (Z 5 g) d (wetZ Z) h (chq c (qs g)) k) k + 1)) (nI (k + 1)) S2
          unfold fX11_quietHours_b71 fX11_quietHours_b74
          rw [nI_1, nI_1]
        | true =>
          show fX11_quietHours_b74 5000 (fX11_quietHours_h36 5000 f) (nI (cntB (fun k => !trB Z (Z 5 g) d (wetZ Z) h (chq c (qs g)) k) k)) (nI k) S2 = fX11_quietHours_h36 5000 f (nI (cntB (fun k => !trB Z (Z 5 g) d (wetZ Z) h (chq c (qs g)) k) k)) (nI (k + 1)) S2
          unfold fX11_quietHours_b74
          rw [nI_1]
    obtain ⟨⟨v, S'⟩, r1, r2, r3⟩ := main
    dsimp only at r2 r3
    subst r2
    exact ⟨S', r1, r3⟩
  unfold fX11_quietHours fX11_quietHours_b0
  dsimp only [lt]
  rw [bnd_t b1]
  rcases (show c = 0 ∨ c = 1 by omega) with rfl | rfl
  · exact loop X1 b2 (s.tr b3)
  · obtain ⟨X2, e1, e2, e3⟩ := x_repent (N := 5000) b2
    show ∃ S', fX11_quietHours_b24 5000 X1 = _ ∧ _
    unfold fX11_quietHours_b24
    rw [bnd_t e1]
    exact loop X2 e2 ((s.tr b3).tr e3)
theorem sub_sw (a b c : Int32) : a - b - c = a - c - b := by
  rw [Int32.sub_eq_add_neg, Int32.sub_eq_add_neg, Int32.sub_eq_add_neg, Int32.sub_eq_add_neg, Int32.add_assoc, Int32.add_comm (-b), ← Int32.add_assoc]
/-- what the one with u gains (choice x) against v -/
noncomputable def gnV (u v : Nat → Int32) (x y : Nat) : Int32 := 5 * u x - 6 * nI x - 3 * v y
noncomputable def gst (ok : Bool) (v : Int32) (p : Int32 × Int32) : Int32 × Int32 := if ok = true then (p.1 + 1, if p.2 = -1 then v else p.2) else p
/-- content with choice x, if it may choose -/
noncomputable def ctV (may : Bool) (u v : Nat → Int32) (x y : Nat) : Bool := !may || decide (¬ gnV u v x y < gnV u v (1 - x) y)
noncomputable def okV (ma mb : Bool) (u v : Nat → Int32) (x y : Nat) : Bool := (decide (x = 0) || ma) && ((decide (y = 0) || mb) && (ctV ma u v x y && ctV mb v u y x))
noncomputable def fiV (ma mb : Bool) (u v : Nat → Int32) : Int32 × Int32 := gst (okV ma mb u v 1 1) 11 (gst (okV ma mb u v 1 0) 10 (gst (okV ma mb u v 0 1) 1 (gst (okV ma mb u v 0 0) 0 (0, -1))))
section
variable {Z SX : gS} {h a b : Nat} {d : Int32} {qs : Nat → qT}
noncomputable def mayG (qs : Nat → qT) (g : Nat) : Bool := decide (¬ (qs g).2.1 < 50)
noncomputable def quG (Z : gS) (d : Int32) (h : Nat) (qs : Nat → qT) (g : Nat) (c : Nat) : Int32 := quV Z (Z 5 g) d h (chq c (qs g))
theorem x_mostChoice {S : gS} (Zk : tOK Z) (C : cSit 21 Z SX h d qs) (ha : a < tn1 Z) (s : oSame xWk SX S) : fX11_mostChoice 5000 (nI a) S = some (iv (mayG qs a), S) := by
  have z6 := Zk.2.1.2
  unfold fX11_mostChoice fX11_mostChoice_b0 mayG
  rw [chk_t (inb_t (by omega) (by decide)), nI_clamp (by omega), s 23 a rfl, show SX 23 a = (qs a).2.1 from (C.2.2.2 a ha).2.1]
  by_cases h5 : (qs a).2.1 < 50
  · rw [if_neg (Int32.not_le.mpr h5), decide_eq_false (fun q => q h5)]
    rfl
  · rw [if_pos (Int32.not_lt.mp h5), decide_eq_true h5]
    rfl
theorem x_gain {S : gS} {x y : Nat} (Zk : tOK Z) (C : cSit 21 Z SX h d qs) (K : qsOK Z (Z 5) qs) (ha : a < tn1 Z) (hb : b < tn1 Z) (h9 : h ≤ 999) (hx : x ≤ 1) (hy : y ≤ 1) (mx : x = 1 → mayG qs a = true) (my : y = 1 → mayG qs b = true) (s : oSame xWk SX S) : ∃ S', fX11_gain 5000 (nI a) (nI x) (nI b) (nI y) S = some (gnV (quG Z d h qs a) (quG Z d h qs b) x y, S') ∧ oSame xWk SX S' := by
  obtain ⟨S1, a1, a2⟩ := x_quiet (c := x) Zk C K ha h9 hx (fun q => of_decide_eq_true (mx q)) s
  obtain ⟨S2, b1, b2⟩ := x_quiet (c := y) Zk C K hb h9 hy (fun q => of_decide_eq_true (my q)) a2
  refine ⟨S2, ?_, b2⟩
  unfold fX11_gain fX11_gain_b0
  rw [bnd_t a1]
  dsimp only
  rw [bnd_t b1]
  rfl
theorem x_content {S : gS} {x y : Nat} (Zk : tOK Z) (C : cSit 21 Z SX h d qs) (K : qsOK Z (Z 5) qs) (ha : a < tn1 Z) (hb : b < tn1 Z) (h9 : h ≤ 999) (hx : x ≤ 1) (hy : y ≤ 1) (mx : x = 1 → mayG qs a = true) (my : y = 1 → mayG qs b = true) (s : oSame xWk SX S) : ∃ S', fX11_isContent 5000 (nI a) (nI x) (nI b) (nI y) S = some (iv (ctV (mayG qs a) (quG Z d h qs a) (quG Z d h qs b) x y), S') ∧ oSame xWk SX S' := by
  have e1 : (1 : Int32) - nI x = nI (1 - x) := by rw [show (1 : Int32) = nI 1 from rfl, pk_sub hx]
  unfold fX11_isContent fX11_isContent_b0
  rw [bnd_t (x_mostChoice Zk C ha s), e1]
  cases hm : mayG qs a with
  | false =>
    have hx0 : x = 0 := by
      rcases (show x = 0 ∨ x = 1 by omega) with q | q
      · exact q
      · rw [mx q] at hm; cases hm
    subst hx0
    refine ⟨S, ?_, s⟩
    rfl
  | true =>
    obtain ⟨S1, a1, a2⟩ := x_gain (x := 1 - x) (y := y) Zk C K ha hb h9 (by omega) hy (fun _ => hm) my s
    obtain ⟨S2, b1, b2⟩ := x_gain (x := x) (y := y) Zk C K ha hb h9 hx hy mx my a2
    refine ⟨S2, ?_, b2⟩
    show (if (1 : Int32) < nI (1 - x) then _ else _) = _
    rw [if_neg (show ¬ (1 : Int32) < nI (1 - x) from nI_nlt (a := 1) (by omega) (by decide))]
    unfold fX11_isContent_b15
    rw [bnd_t a1]
    dsimp only
    rw [bnd_t b1]
    show (if gnV (quG Z d h qs a) (quG Z d h qs b) x y < gnV (quG Z d h qs a) (quG Z d h qs b) (1 - x) y then _ else _) = _
    unfold ctV
    by_cases hl : gnV (quG Z d h qs a) (quG Z d h qs b) x y < gnV (quG Z d h qs a) (quG Z d h qs b) (1 - x) y
    · rw [if_pos hl, decide_eq_false (fun q => q hl)]
      rfl
    · rw [if_neg hl, decide_eq_true hl]
      rfl
theorem x_couple {S : gS} {x y : Nat} {x3 : Int32} {p : Int32 × Int32} {r : Int32 → Int32 → Int32 → Int32 → Int32 → Int32 → gS → Option tR} {r' : Int32 → Int32 → Int32 → Int32 → Int32 → Int32 → Int32 → gS → Option tR} (Zk : tOK Z) (C : cSit 21 Z SX h d qs) (K : qsOK Z (Z 5) qs) (ha : a < tn1 Z) (hb : b < tn1 Z) (h9 : h ≤ 999) (hx : x ≤ 1) (hy : y ≤ 1) (mx : x = 1 → mayG qs a = true) (my : y = 1 → mayG qs b = true) (s : oSame xWk SX S) : ∃ S', fX11_game_b63 5000 r r' (nI a) (nI b) x3 p.1 p.2 (nI x) (nI y) S = r' (nI a) (nI b) x3 (gst (okV (mayG qs a) (mayG qs b) (quG Z d h qs a) (quG Z d h qs b) x y) (10 * nI x + nI y) p).1 (gst (okV (mayG qs a) (mayG qs b) (quG Z d h qs a) (quG Z d h qs b) x y) (10 * nI x + nI y) p).2 (nI x) (nI (y + 1)) S' ∧ oSame xWk SX S' := by
  obtain ⟨S1, a1, a2⟩ := x_content (x := x) (y := y) Zk C K ha hb h9 hx hy mx my s
  have hxx : (decide (x = 0) || mayG qs a) = true := by
    rcases (show x = 0 ∨ x = 1 by omega) with q | q
    · rw [q]; rfl
    · rw [mx q, Bool.or_true]
  have hyy : (decide (y = 0) || mayG qs b) = true := by
    rcases (show y = 0 ∨ y = 1 by omega) with q | q
    · rw [q]; rfl
    · rw [my q, Bool.or_true]
  unfold okV
  rw [hxx, hyy, Bool.true_and, Bool.true_and]
  unfold fX11_game_b63
  rw [bnd_t a1]
  cases hc1 : ctV (mayG qs a) (quG Z d h qs a) (quG Z d h qs b) x y with
  | false =>
    refine ⟨S1, ?_, a2⟩
    show fX11_game_b113 5000 r r' (nI a) (nI b) x3 p.1 p.2 (nI x) (nI y) S1 = r' (nI a) (nI b) x3 p.1 p.2 (nI x) (nI (y + 1)) S1
    unfold fX11_game_b113
    rw [nI_1]
  | true =>
    obtain ⟨S2, b1, b2⟩ := x_content (a := b) (b := a) (x := y) (y := x) Zk C K hb ha h9 hy hx my mx a2
    show ∃ S', fX11_game_b76 5000 r r' (nI a) (nI b) x3 p.1 p.2 (nI x) (nI y) S1 = _ ∧ _
    unfold fX11_game_b76
    rw [bnd_t b1]
    cases hc2 : ctV (mayG qs b) (quG Z d h qs b) (quG Z d h qs a) y x with
    | false =>
      refine ⟨S2, ?_, b2⟩
      show fX11_game_b113 5000 r r' (nI a) (nI b) x3 p.1 p.2 (nI x) (nI y) S2 = r' (nI a) (nI b) x3 p.1 p.2 (nI x) (nI (y + 1)) S2
      unfold fX11_game_b113
      rw [nI_1]
    | true =>
      refine ⟨S2, ?_, b2⟩
      show fX11_game_b89 5000 r r' (nI a) (nI b) x3 p.1 p.2 (nI x) (nI y) S2 = r' (nI a) (nI b) x3 (p.1 + 1) (if p.2 = -1 then 10 * nI x + nI y else p.2) (nI x) (nI (y + 1)) S2
      unfold fX11_game_b89
      by_cases h1 : p.2 = -1
      · rw [if_pos h1, if_pos h1]
        unfold fX11_game_b98 fX11_game_b111 fX11_game_b113
        rw [nI_1]
      · rw [if_neg h1, if_neg h1]
        unfold fX11_game_b109 fX11_game_b111 fX11_game_b113
        rw [nI_1]
theorem gst_no {ok : Bool} {v : Int32} {p : Int32 × Int32} (h : ok = false) : gst ok v p = p := by
  unfold gst
  rw [h]
  rfl
/-- the other one's choices, the first one's being x -/
theorem x_row {S : gS} {x : Nat} {x3 : Int32} {p : Int32 × Int32} {r : Int32 → Int32 → Int32 → Int32 → Int32 → Int32 → gS → Option tR} (Zk : tOK Z) (C : cSit 21 Z SX h d qs) (K : qsOK Z (Z 5) qs) (ha : a < tn1 Z) (hb : b < tn1 Z) (h9 : h ≤ 999) (hx : x ≤ 1) (mx : x = 1 → mayG qs a = true) (s : oSame xWk SX S) : ∃ S', fX11_game_b50 5000 r (nI a) (nI b) x3 p.1 p.2 (nI x) S = r (nI a) (nI b) x3 (gst (okV (mayG qs a) (mayG qs b) (quG Z d h qs a) (quG Z d h qs b) x 1) (10 * nI x + nI 1) (gst (okV (mayG qs a) (mayG qs b) (quG Z d h qs a) (quG Z d h qs b) x 0) (10 * nI x + nI 0) p)).1 (gst (okV (mayG qs a) (mayG qs b) (quG Z d h qs a) (quG Z d h qs b) x 1) (10 * nI x + nI 1) (gst (okV (mayG qs a) (mayG qs b) (quG Z d h qs a) (quG Z d h qs b) x 0) (10 * nI x + nI 0) p)).2 (nI (x + 1)) S' ∧ oSame xWk SX S' := by
  obtain ⟨S1, a1, a2⟩ := x_couple (x := x) (y := 0) (x3 := x3) (p := p) (r := r) (r' := fX11_game_h53 5000 r 4999) Zk C K ha hb h9 hx (by omega) mx (fun q => by omega) s
  generalize hp1 : gst (okV (mayG qs a) (mayG qs b) (quG Z d h qs a) (quG Z d h qs b) x 0) (10 * nI x + nI 0) p = p1 at a1 ⊢
  have e1 : fX11_game_b50 5000 r (nI a) (nI b) x3 p.1 p.2 (nI x) S = fX11_game_h53 5000 r 4999 (nI a) (nI b) x3 p1.1 p1.2 (nI x) (nI 1) S1 := by
    show fX11_game_b53 5000 r (fX11_game_h53 5000 r 4999) (nI a) (nI b) x3 p.1 p.2 (nI x) (nI 0) S = _
    unfold fX11_game_b53
    rw [bnd_t (x_mostChoice Zk C hb s)]
    rw [← a1]
    cases mayG qs b <;> rfl
  rw [e1]
  show ∃ S', fX11_game_b53 5000 r (fX11_game_h53 5000 r 4998) (nI a) (nI b) x3 p1.1 p1.2 (nI x) (nI 1) S1 = _ ∧ _
  unfold fX11_game_b53
  rw [bnd_t (x_mostChoice Zk C hb a2)]
  cases hm : mayG qs b with
  | false =>
    rw [gst_no (ok := okV (mayG qs a) false (quG Z d h qs a) (quG Z d h qs b) x 1) (by unfold okV; simp)]
    refine ⟨S1, ?_, a2⟩
    show fX11_game_b119 5000 r (nI a) (nI b) x3 p1.1 p1.2 (nI x) S1 = _
    unfold fX11_game_b119
    rw [nI_1]
  | true =>
    obtain ⟨S2, b1, b2⟩ := x_couple (x := x) (y := 1) (x3 := x3) (p := p1) (r := r) (r' := fX11_game_h53 5000 r 4998) Zk C K ha hb h9 hx (by omega) mx (fun _ => hm) a2
    rw [hm] at b1
    show ∃ S', fX11_game_b63 5000 r (fX11_game_h53 5000 r 4998) (nI a) (nI b) x3 p1.1 p1.2 (nI x) (nI 1) S1 = _ ∧ _
    rw [b1]
    refine ⟨S2, ?_, b2⟩
    show fX11_game_b53 5000 r (fX11_game_h53 5000 r 4997) (nI a) (nI b) x3 _ _ (nI x) (nI 2) S2 = _
    unfold fX11_game_b53
    rw [bnd_t (x_mostChoice Zk C hb b2), hm]
    show fX11_game_b119 5000 r (nI a) (nI b) x3 _ _ (nI x) S2 = _
    unfold fX11_game_b119
    rw [nI_1]
theorem x_game (Zk : tOK Z) (C : cSit 21 Z SX h d qs) (K : qsOK Z (Z 5) qs) (ha : a < tn1 Z) (hb : b < tn1 Z) (h9 : h ≤ 999) {x3 : Int32} : ∃ S', fX11_game_b31 5000 (nI a) (nI b) x3 SX = some (0, (if x3 = 0 then (fiV (mayG qs a) (mayG qs b) (quG Z d h qs a) (quG Z d h qs b)).1 else (fiV (mayG qs a) (mayG qs b) (quG Z d h qs a) (quG Z d h qs b)).2), S') ∧ oSame xWk SX S' := by
  obtain ⟨S1, a1, a2⟩ := x_row (x := 0) (x3 := x3) (p := (0, -1)) (r := fX11_game_h40 5000 4999) Zk C K ha hb h9 (by omega) (fun q => by omega) (oSame.rf (S := SX))
  generalize hp1 : gst (okV (mayG qs a) (mayG qs b) (quG Z d h qs a) (quG Z d h qs b) 0 1) (10 * nI 0 + nI 1) (gst (okV (mayG qs a) (mayG qs b) (quG Z d h qs a) (quG Z d h qs b) 0 0) (10 * nI 0 + nI 0) (0, -1)) = p1 at a1
  have hp1 : gst (okV (mayG qs a) (mayG qs b) (quG Z d h qs a) (quG Z d h qs b) 0 1) 1 (gst (okV (mayG qs a) (mayG qs b) (quG Z d h qs a) (quG Z d h qs b) 0 0) 0 (0, -1)) = p1 := hp1
  have e1 : fX11_game_b31 5000 (nI a) (nI b) x3 SX = fX11_game_h40 5000 4999 (nI a) (nI b) x3 p1.1 p1.2 (nI 1) S1 := by
    show fX11_game_b40 5000 (fX11_game_h40 5000 4999) (nI a) (nI b) x3 0 (-1) (nI 0) SX = _
    unfold fX11_game_b40
    rw [bnd_t (x_mostChoice Zk C ha oSame.rf), ← a1]
    cases mayG qs a <;> rfl
  rw [e1]
  unfold fiV
  rw [hp1]
  show ∃ S', fX11_game_b40 5000 (fX11_game_h40 5000 4998) (nI a) (nI b) x3 p1.1 p1.2 (nI 1) S1 = _ ∧ _
  unfold fX11_game_b40
  rw [bnd_t (x_mostChoice Zk C ha a2)]
  have fin : ∀ (p : Int32 × Int32) (S : gS), fX11_game_b125 5000 x3 p.1 p.2 S = some (0, (if x3 = 0 then p.1 else p.2), S) := by
    intro p S
    unfold fX11_game_b125
    by_cases hx : x3 = 0
    · rw [if_pos hx, if_pos hx]; rfl
    · rw [if_neg hx, if_neg hx]; rfl
  cases hm : mayG qs a with
  | false =>
    rw [gst_no (ok := okV false (mayG qs b) (quG Z d h qs a) (quG Z d h qs b) 1 1) (by unfold okV; simp), gst_no (ok := okV false (mayG qs b) (quG Z d h qs a) (quG Z d h qs b) 1 0) (by unfold okV; simp)]
    exact ⟨S1, fin p1 S1, a2⟩
  | true =>
    obtain ⟨S2, b1, b2⟩ := x_row (x := 1) (x3 := x3) (p := p1) (r := fX11_game_h40 5000 4998) Zk C K ha hb h9 (by omega) (fun _ => hm) a2
    rw [hm] at b1
    show ∃ S', fX11_game_b50 5000 (fX11_game_h40 5000 4998) (nI a) (nI b) x3 p1.1 p1.2 (nI 1) S1 = _ ∧ _
    rw [b1]
    refine ⟨S2, ?_, b2⟩
    show fX11_game_b40 5000 (fX11_game_h40 5000 4997) (nI a) (nI b) x3 _ _ (nI 2) S2 = _
    unfold fX11_game_b40
    rw [bnd_t (x_mostChoice Zk C ha b2), hm]
    exact fin (gst (okV true (mayG qs b) (quG Z d h qs a) (quG Z d h qs b) 1 1) 11 (gst (okV true (mayG qs b) (quG Z d h qs a) (quG Z d h qs b) 1 0) 10 p1)) S2
end
end

/-! part 63.agame -/
section
/-! the reference's game -/
theorem qsH.up {Z : gS} {g : Nat} {qs : Nat → qT} {q : qT} (K : qsH Z qs) (hg : g < tn1 Z) (e : q.2.2.2 = (qs g).2.2.2) : qsH Z (upq qs g q) := by
  obtain ⟨k1, k2⟩ := K
  have key : ∀ g', (upq qs g q g').2.2.2 = (qs g').2.2.2 := by
    intro g'
    by_cases hh : g' = g
    · rw [hh, upq_s]; exact e
    · rw [upq_n hh]
  refine ⟨fun g' hg' => ?_, fun x y hx hy => ?_⟩
  · unfold hOK
    rw [key g']
    exact k1 g' hg'
  · rw [key x, key y]
    exact k2 x y hx hy
noncomputable def qsC (qs : Nat → qT) (a b x y : Nat) : Nat → qT := fun g => if g = a then chq x (qs a) else if g = b then chq y (qs b) else qs g
section
variable {Z S1 S2 : gS} {h a b : Nat} {d : Int32} {e : Nat → Int32} {qs : Nat → qT}
theorem m_qsC {S : gS} {x y : Nat} {r : Int32 → Int32 → Int32 → gS → Option (Int32 × gS)} (Zk : tOK Z) (K : qsH Z qs) (ha : a < tn1 Z) (hb : b < tn1 Z) (hab : a ≠ b) (hx : x ≤ 1) (hy : y ≤ 1) (M : mSit Z S h d e qs) : ∃ S', fX12_tellGains_b16 5000 r (nI a) (nI b) (nI (2 * x + y)) S = fX12_tellGains_b40 5000 r (nI a) (nI b) (nI (2 * x + y)) S' ∧ mSit Z S' h d e (qsC qs a b x y) ∧ qsH Z (qsC qs a b x y) ∧ oSame mHo S S' := by
  have z6 := Zk.2.1.2
  have e2 : nI (2 * x + y) / 2 = nI x := by rw [show (2 : Int32) = nI 2 from rfl, pk_div (by omega) (by decide) (by decide), show (2 * x + y) / 2 = x by omega]
  have em : nI (2 * x + y) - nI (2 * x + y) / 2 * 2 = nI y := by rw [show (2 : Int32) = nI 2 from rfl, pk_rem (by omega) (by decide) (by decide), show (2 * x + y) % 2 = y by omega]
  have st1 : ∃ A, fX12_tellGains_b16 5000 r (nI a) (nI b) (nI (2 * x + y)) S = fX12_tellGains_b28 5000 r (nI a) (nI b) (nI (2 * x + y)) A ∧ mSit Z A h d e (upq qs a (chq x (qs a))) ∧ oSame mHo S A := by
    unfold fX12_tellGains_b16
    rw [e2]
    rcases (show x = 0 ∨ x = 1 by omega) with rfl | rfl
    · refine ⟨S, rfl, ?_, oSame.rf⟩
      have : upq qs a (chq 0 (qs a)) = qs := by
        funext g
        by_cases hh : g = a
        · rw [hh, upq_s]; rfl
        · rw [upq_n hh]
      rw [this]
      exact M
    · obtain ⟨A, a1, a2, a3⟩ := m_doConfess (N := 5000) Zk M ha
      refine ⟨A, ?_, a2, mHo_of (g := a) (by omega) (fun i j hij => a3 i j (by omega))⟩
      show fX12_tellGains_b23 5000 r (nI a) (nI b) _ S = _
      unfold fX12_tellGains_b23
      rw [bnd_t a1]
  obtain ⟨A, a1, a2, a3⟩ := st1
  have hK1 : qsH Z (upq qs a (chq x (qs a))) := K.up ha (by
    unfold chq
    by_cases h1 : x = 1
    · rw [if_pos h1]; rfl
    · rw [if_neg h1])
  have eb : upq qs a (chq x (qs a)) b = qs b := upq_n (Ne.symm hab)
  have eC : upq (upq qs a (chq x (qs a))) b (chq y (qs b)) = qsC qs a b x y := by
    funext g
    unfold qsC
    by_cases h1 : g = a
    · rw [if_pos h1, h1, upq_n hab, upq_s]
    · rw [if_neg h1]
      by_cases h2 : g = b
      · rw [if_pos h2, h2, upq_s]
      · rw [if_neg h2, upq_n h2, upq_n h1]
  have hK2 : qsH Z (qsC qs a b x y) := by
    rw [← eC]
    refine hK1.up hb ?_
    rw [eb]
    unfold chq
    by_cases h1 : y = 1
    · rw [if_pos h1]; rfl
    · rw [if_neg h1]
  rw [a1]
  unfold fX12_tellGains_b28
  rw [em]
  rcases (show y = 0 ∨ y = 1 by omega) with rfl | rfl
  · refine ⟨A, rfl, ?_, hK2, a3⟩
    rw [← eC]
    have : upq (upq qs a (chq x (qs a))) b (chq 0 (qs b)) = upq qs a (chq x (qs a)) := by
      funext g
      by_cases hh : g = b
      · rw [hh, upq_s, eb]; rfl
      · rw [upq_n hh]
    rw [this]
    exact a2
  · obtain ⟨B, b1, b2, b3⟩ := m_doConfess (N := 5000) Zk a2 hb
    refine ⟨B, ?_, ?_, hK2, a3.tr (mHo_of (g := b) (by omega) (fun i j hij => b3 i j (by omega)))⟩
    · show fX12_tellGains_b35 5000 r (nI a) (nI b) _ A = _
      unfold fX12_tellGains_b35
      rw [bnd_t b1]
    · rw [← eC]
      rw [eb] at b2
      exact b2
noncomputable def quW (Z : gS) (d : Int32) (e : Nat → Int32) (h : Nat) (qs : Nat → qT) (g : Nat) (c : Nat) : Int32 := quV Z (e g) d h (chq c (qs g))
theorem cntB_s {c : Nat → Bool} {k : Nat} : nI (cntB c (k + 1)) = nI (cntB c k) + (if c k = true then 1 else 0) := by
  show nI (cntB c k + if c k = true then 1 else 0) = _
  by_cases h : c k = true
  · rw [if_pos h, if_pos h, nI_1]
  · rw [if_neg h, if_neg h, Int32.add_zero]; rfl
/-- a WEEK, and what is gained in it -/
theorem m_week {S : gS} {x y : Nat} {r : Int32 → Int32 → Int32 → gS → Option (Int32 × gS)} (Zk : tOK Z) (ha : a < tn1 Z) (hb : b < tn1 Z) (hab : a ≠ b) (h9 : h ≤ 999) (hx : x ≤ 1) (hy : y ≤ 1) (M : mSit Z S h d e (qsC qs a b x y)) (K : qsH Z (qsC qs a b x y)) (w41 : S 99 41 = -1) : ∃ S', fX12_tellGains_b40 5000 r (nI a) (nI b) (nI (2 * x + y)) S = bnd (fX12_unpack 5000 46 0 (sU (sU S' 55 (2 * (2 * x + y)) (gnV (quW Z d e h qs a) (quW Z d e h qs b) x y)) 55 (2 * (2 * x + y) + 1) (gnV (quW Z d e h qs b) (quW Z d e h qs a) y x))) (fun q1 => r (nI a) (nI b) (nI (2 * x + y + 1)) q1.2) ∧ oSame mHo S S' := by
  have z6 := Zk.2.1.2
  have ea : qsC qs a b x y a = chq x (qs a) := if_pos rfl
  have ebb : qsC qs a b x y b = chq y (qs b) := by
    unfold qsC
    rw [if_neg (Ne.symm hab), if_pos rfl]
  suffices L : ∀ (m k fuel : Nat) (S1 : gS), k + m = 8 → m < fuel → mSit Z S1 (h + k) d e (fun g => trj Z (e g) d (wetZ Z) h (qsC qs a b x y g) k) → oSame mHo S S1 → ∃ S', fX12_tellGains_h49 5000 r fuel (nI a) (nI b) (nI (2 * x + y)) (nI (cntB (fun k => !trB Z (e a) d (wetZ Z) h (chq x (qs a)) k) k)) (nI (cntB (fun k => !trB Z (e b) d (wetZ Z) h (chq y (qs b)) k) k)) (nI k) S1 = bnd (fX12_unpack 5000 46 0 (sU (sU S' 55 (2 * (2 * x + y)) (gnV (quW Z d e h qs a) (quW Z d e h qs b) x y)) 55 (2 * (2 * x + y) + 1) (gnV (quW Z d e h qs b) (quW Z d e h qs a) y x))) (fun q1 => r (nI a) (nI b) (nI (2 * x + y + 1)) q1.2) ∧ oSame mHo S S' from L 8 0 5000 S (by omega) (by omega) M oSame.rf
  intro m
  induction m with
  | zero =>
    intro k fuel S1 h1 h2 M1 s
    obtain ⟨f, rfl⟩ : ∃ f, fuel = f + 1 := ⟨fuel - 1, by omega⟩
    have : k = 8 := by omega
    subst this
    refine ⟨S1, ?_, s⟩
    show fX12_tellGains_b108 5000 r (nI a) (nI b) (nI (2 * x + y)) (quW Z d e h qs a x) (quW Z d e h qs b y) S1 = _
    unfold fX12_tellGains_b108
    have e2 : nI (2 * x + y) / 2 = nI x := by rw [show (2 : Int32) = nI 2 from rfl, pk_div (by omega) (by decide) (by decide), show (2 * x + y) / 2 = x by omega]
    have em : nI (2 * x + y) - nI (2 * x + y) / 2 * 2 = nI y := by rw [show (2 : Int32) = nI 2 from rfl, pk_rem (by omega) (by decide) (by decide), show (2 * x + y) % 2 = y by omega]
    have e4 : (2 : Int32) * nI (2 * x + y) = nI (2 * (2 * x + y)) := by rw [show (2 : Int32) = nI 2 from rfl, pk_mul]
    dsimp only [lt]
    rw [em, e2, e4, nI_1, nI_1, chk_t (inb_t (by omega) (by decide)), chk_t (inb_t (by omega) (by decide)), nI_clamp (n := 2 * (2 * x + y)) (by omega), nI_clamp (n := 2 * (2 * x + y) + 1) (by omega)]
    unfold gnV
    rw [sub_sw (5 * quW Z d e h qs a x), sub_sw (5 * quW Z d e h qs b y)]
  | succ m ih =>
    intro k fuel S1 h1 h2 M1 s
    obtain ⟨f, rfl⟩ : ∃ f, fuel = f + 1 := ⟨fuel - 1, by omega⟩
    obtain ⟨S2, r1, r2, r3, r4⟩ := m_step1 (N := 5000) Zk (K.tr (wf := wetZ Z) (h := h) (d := d) (e := e) k) (by omega) (by decide) M1 (by rw [s 99 41 rfl]; exact w41)
    obtain ⟨S', e1, e2⟩ := ih (k + 1) f S2 (by omega) (by omega) r2 (s.tr r4)
    refine ⟨S', ?_, e2⟩
    rw [← e1]
    have ba : bt (S2 99 45) (nI a) = trB Z (e a) d (wetZ Z) h (chq x (qs a)) k := by
      rw [r3, silent_bt z6 ha, ea]
      rfl
    have bb' : bt (S2 99 45) (nI b) = trB Z (e b) d (wetZ Z) h (chq y (qs b)) k := by
      rw [r3, silent_bt z6 hb, ebb]
      rfl
    show fX12_tellGains_b49 5000 r (fX12_tellGains_h49 5000 r f) (nI a) (nI b) (nI (2 * x + y)) _ _ (nI k) S1 = _
    unfold fX12_tellGains_b49
    rw [if_neg (show ¬ (8 : Int32) ≤ nI k from nI_ge (b := 8) (by omega) (by decide))]
    unfold fX12_tellGains_b56
    rw [bnd_t r1]
    dsimp only
    rw [bnd_t m_isOf, ba, cntB_s, cntB_s]
    cases trB Z (e a) d (wetZ Z) h (chq x (qs a)) k with
    | false =>
      show fX12_tellGains_b78 5000 r (fX12_tellGains_h49 5000 r f) (nI a) (nI b) (nI (2 * x + y)) _ (nI k) _ 1 S2 = _
      unfold fX12_tellGains_b78
      rw [bnd_t m_isOf, bb']
      cases trB Z (e b) d (wetZ Z) h (chq y (qs b)) k with
      | false =>
        show fX12_tellGains_h49 5000 r f (nI a) (nI b) (nI (2 * x + y)) _ _ (nI k + 1) S2 = _
        rw [nI_1 k]
        rfl
      | true =>
        show fX12_tellGains_h49 5000 r f (nI a) (nI b) (nI (2 * x + y)) _ _ (nI k + 1) S2 = _
        rw [nI_1 k]
        rfl
    | true =>
      show fX12_tellGains_b78 5000 r (fX12_tellGains_h49 5000 r f) (nI a) (nI b) (nI (2 * x + y)) _ (nI k) _ 0 S2 = _
      unfold fX12_tellGains_b78
      rw [bnd_t m_isOf, bb']
      cases trB Z (e b) d (wetZ Z) h (chq y (qs b)) k with
      | false =>
        show fX12_tellGains_h49 5000 r f (nI a) (nI b) (nI (2 * x + y)) _ _ (nI k + 1) S2 = _
        rw [nI_1 k]
        rfl
      | true =>
        show fX12_tellGains_h49 5000 r f (nI a) (nI b) (nI (2 * x + y)) _ _ (nI k + 1) S2 = _
        rw [nI_1 k]
        rfl
theorem m_tellGains (Zk : tOK Z) (K : qsH Z qs) (ha : a < tn1 Z) (hb : b < tn1 Z) (hab : a ≠ b) (h9 : h ≤ 999) (M : mSit Z S1 h d e qs) (w41 : S1 99 41 = -1) (c0 : S1 99 4 = 0) : ∃ S', fX12_tellGains 5000 (nI a) (nI b) S1 = some (0, S') ∧ mSame S1 S' ∧ S' 99 4 = 0 ∧ ∀ x y, x ≤ 1 → y ≤ 1 → S' 55 (2 * (2 * x + y)) = gnV (quW Z d e h qs a) (quW Z d e h qs b) x y ∧ S' 55 (2 * (2 * x + y) + 1) = gnV (quW Z d e h qs b) (quW Z d e h qs a) y x := by
  obtain ⟨S2, k1, k2, k3, k5, k7, k6, k4⟩ := q_go M w41 c0
  have main : Gv (fX12_tellGains_h11 5000 5000 (nI a) (nI b) 0 S2) (fun r => r.1 = 0 ∧ mSame S1 r.2 ∧ r.2 99 4 = 0 ∧ ∀ x y, x ≤ 1 → y ≤ 1 → r.2 55 (2 * (2 * x + y)) = gnV (quW Z d e h qs a) (quW Z d e h qs b) x y ∧ r.2 55 (2 * (2 * x + y) + 1) = gnV (quW Z d e h qs b) (quW Z d e h qs a) y x) := by
    refine loopG (A := gS) (fun f c S => fX12_tellGains_h11 5000 f (nI a) (nI b) (nI c) S) (fun c S => mSame S1 S ∧ S 99 4 = 0 ∧ (∀ j, S 46 j = S2 46 j) ∧ ∀ x y, x ≤ 1 → y ≤ 1 → 2 * x + y < c → S 55 (2 * (2 * x + y)) = gnV (quW Z d e h qs a) (quW Z d e h qs b) x y ∧ S 55 (2 * (2 * x + y) + 1) = gnV (quW Z d e h qs b) (quW Z d e h qs a) y x) _ 4 ?_ ?_ 4 0 S2 5000 (by omega) ⟨k5, k7, fun _ => rfl, fun x y _ _ h => by omega⟩ (by omega)
    · rintro f S ⟨i1, i2, i3, i4⟩
      exact ⟨(0, S), rfl, rfl, i1, i2, fun x y hx hy => i4 x y hx hy (by omega)⟩
    · rintro f c S hc ⟨i1, i2, i3, i4⟩
      refine Or.inr ?_
      obtain ⟨x, y, hx, hy, rfl⟩ : ∃ x y, x ≤ 1 ∧ y ≤ 1 ∧ c = 2 * x + y := ⟨c / 2, c % 2, by omega, by omega, by omega⟩
      have M' := M.on i1
      obtain ⟨A, a1, a2, a3, a4⟩ := m_qsC (x := x) (y := y) (r := fX12_tellGains_h11 5000 f) Zk K ha hb hab hx hy M'
      obtain ⟨B, b1, b2⟩ := m_week (x := x) (y := y) (r := fX12_tellGains_h11 5000 f) Zk ha hb hab h9 hx hy a2 a3 (by rw [a4 99 41 rfl, i1 99 41 rfl]; exact w41)
      obtain ⟨G, hG⟩ : ∃ z, z = sU (sU B 55 (2 * (2 * x + y)) (gnV (quW Z d e h qs a) (quW Z d e h qs b) x y)) 55 (2 * (2 * x + y) + 1) (gnV (quW Z d e h qs b) (quW Z d e h qs a) y x) := ⟨_, rfl⟩
      have g1 : ∀ i j, ¬ (i = 55 ∧ (j = 2 * (2 * x + y) ∨ j = 2 * (2 * x + y) + 1)) → G i j = B i j := fun i j hij => by rw [hG, sU_n (by omega), sU_n (by omega)]
      have sB : oSame mHo S B := a4.tr b2
      have sG : oSame mQ S1 G := fun i j hij => by
        rw [g1 i j (fun q => by rw [q.1] at hij; cases hij)]
        exact (i1.q.tr sB.q) i j hij
      obtain ⟨S4, u1, u2, u3, u4⟩ := k6 G (fun j => by rw [g1 46 j (by omega), sB 46 j rfl]; exact i3 j) sG
      rw [← hG] at b1
      have e55 : ∀ j, S4 55 j = G 55 j := fun j => u4 55 j
      refine ⟨S4, ⟨u2, ?_, fun j => ?_, fun x' y' hx' hy' hl => ?_⟩, ?_⟩
      · rw [u3, g1 99 4 (by omega), sB 99 4 rfl]; exact i2
      · rw [u4 46 j]
        show G 46 j = _
        rw [g1 46 j (by omega), sB 46 j rfl]; exact i3 j
      · rw [e55, e55]
        by_cases hh : 2 * x' + y' = 2 * x + y
        · have ex : x' = x := by omega
          have ey : y' = y := by omega
          subst ex ey
          refine ⟨?_, ?_⟩
          · rw [hG, sU_n (by omega), sU_s]
          · rw [hG, sU_s]
        · rw [g1 _ _ (by omega), g1 _ _ (by omega), sB 55 _ rfl, sB 55 _ rfl]
          exact i4 x' y' hx' hy' (by omega)
      · show fX12_tellGains_b11 5000 (fX12_tellGains_h11 5000 f) (nI a) (nI b) (nI (2 * x + y)) S = _
        unfold fX12_tellGains_b11
        rw [if_neg (show ¬ (4 : Int32) ≤ nI (2 * x + y) from nI_ge (b := 4) hc (by decide)), a1, b1, bnd_t u1]
  obtain ⟨⟨v, S'⟩, r1, r2, r3⟩ := main
  dsimp only at r2 r3
  subst r2
  refine ⟨S', ?_, r3⟩
  unfold fX12_tellGains fX12_tellGains_b0
  rw [bnd_t k1]
  exact r1
end
theorem okV_eq {ma mb : Bool} {u v : Nat → Int32} {x y : Nat} : okV ma mb u v x y = ((decide (x = 0) || ma) && ((decide (y = 0) || mb) && (ctV ma u v x y && ctV mb v u y x))) := rfl
theorem xor_12 : ∀ x, x < 2 → ∀ y, y < 2 → (nI (2 * x + y)) ^^^ 1 = nI (2 * x + (1 - y)) ∧ (nI (2 * x + y)) ^^^ 2 = nI (2 * (1 - x) + y) := by decide +kernel
theorem dbl (c : Nat) : (2 : Int32) * nI c = nI (2 * c) := by rw [show (2 : Int32) = nI 2 from rfl, pk_mul]
section
variable {S : gS} {x y : Nat} {x3 : Int32} {ma mb : Bool} {u v : Nat → Int32} {p : Int32 × Int32} {r : Int32 → Int32 → Int32 → Int32 → Int32 → Int32 → gS → Option (Int32 × gS)}
theorem half2 (hx : x ≤ 1) (hy : y ≤ 1) : nI (2 * x + y) / 2 = nI x ∧ nI (2 * x + y) - nI (2 * x + y) / 2 * 2 = nI y := by
  refine ⟨?_, ?_⟩
  · rw [show (2 : Int32) = nI 2 from rfl, pk_div (by omega) (by decide) (by decide), show (2 * x + y) / 2 = x by omega]
  · rw [show (2 : Int32) = nI 2 from rfl, pk_rem (by omega) (by decide) (by decide), show (2 * x + y) % 2 = y by omega]
theorem m_sk {c : Nat} {a b e f : Int32} : fX12_game_b202 5000 r x3 a b e f (nI c) S = r x3 a b e f (nI (c + 1)) S := by
  unfold fX12_game_b202
  rw [nI_1]
theorem m_take {a b : Int32} (hx : x ≤ 1) (hy : y ≤ 1) : fX12_game_b174 5000 r x3 a b p.1 p.2 (nI (2 * x + y)) S = r x3 a b (p.1 + 1) (if p.2 = -1 then 10 * nI x + nI y else p.2) (nI (2 * x + y + 1)) S := by
  obtain ⟨e2, em⟩ := half2 hx hy
  unfold fX12_game_b174
  by_cases h1 : p.2 = -1
  · rw [if_pos h1, if_pos h1]
    unfold fX12_game_b183 fX12_game_b200
    rw [em, e2, m_sk]
  · rw [if_neg h1, if_neg h1]
    unfold fX12_game_b198 fX12_game_b200
    rw [m_sk]
theorem gst_t {v : Int32} : gst true v p = (p.1 + 1, if p.2 = -1 then v else p.2) := rfl
theorem gst_f {v : Int32} : gst false v p = p := rfl
theorem ctV_f : ctV false u v x y = true := rfl
theorem ctV_t : ctV true u v x y = decide (¬ gnV u v x y < gnV u v (1 - x) y) := rfl
theorem m_cb {a : Int32} (hx : x ≤ 1) (hy : y ≤ 1) (G : ∀ x y, x ≤ 1 → y ≤ 1 → S 55 (2 * (2 * x + y)) = gnV u v x y ∧ S 55 (2 * (2 * x + y) + 1) = gnV v u y x) : fX12_game_b139 5000 r x3 a (iv mb) p.1 p.2 (nI (2 * x + y)) S = r x3 a (iv mb) (gst (ctV mb v u y x) (10 * nI x + nI y) p).1 (gst (ctV mb v u y x) (10 * nI x + nI y) p).2 (nI (2 * x + y + 1)) S := by
  unfold fX12_game_b139
  cases mb with
  | false =>
    rw [if_pos (show iv false = 0 from rfl), m_take hx hy, ctV_f, gst_t]
  | true =>
    rw [if_neg (show ¬ iv true = 0 by decide)]
    unfold fX12_game_b144
    rw [(xor_12 x (by omega) y (by omega)).1, dbl, dbl, nI_1, nI_1, chk_t (inb_t (by omega) (by decide)), chk_t (inb_t (by omega) (by decide)), nI_clamp (by omega), nI_clamp (by omega), (G x (1 - y) hx (by omega)).2, (G x y hx hy).2, ctV_t]
    by_cases hl : gnV v u (1 - y) x ≤ gnV v u y x
    · rw [if_pos hl, decide_eq_true (Int32.not_lt.mpr hl), m_take hx hy, gst_t]
    · rw [if_neg hl, decide_eq_false (fun q => q (Int32.not_le.mp hl)), gst_f]
      unfold fX12_game_b171
      rw [m_sk]
theorem m_ca (hx : x ≤ 1) (hy : y ≤ 1) (G : ∀ x y, x ≤ 1 → y ≤ 1 → S 55 (2 * (2 * x + y)) = gnV u v x y ∧ S 55 (2 * (2 * x + y) + 1) = gnV v u y x) : fX12_game_b111 5000 r x3 (iv ma) (iv mb) p.1 p.2 (nI (2 * x + y)) S = r x3 (iv ma) (iv mb) (gst (ctV ma u v x y && ctV mb v u y x) (10 * nI x + nI y) p).1 (gst (ctV ma u v x y && ctV mb v u y x) (10 * nI x + nI y) p).2 (nI (2 * x + y + 1)) S := by
  unfold fX12_game_b111
  cases ma with
  | false =>
    rw [if_pos (show iv false = 0 from rfl), m_cb hx hy G, ctV_f, Bool.true_and]
  | true =>
    rw [if_neg (show ¬ iv true = 0 by decide)]
    unfold fX12_game_b116
    rw [(xor_12 x (by omega) y (by omega)).2, dbl, dbl, chk_t (inb_t (by omega) (by decide)), chk_t (inb_t (by omega) (by decide)), nI_clamp (by omega), nI_clamp (by omega), (G (1 - x) y (by omega) hy).1, (G x y hx hy).1, ctV_t]
    by_cases hl : gnV u v x y < gnV u v (1 - x) y
    · rw [if_pos hl, decide_eq_false (fun q => q hl), Bool.false_and, m_sk, gst_f]
    · rw [if_neg hl, decide_eq_true hl, Bool.true_and, m_cb hx hy G]
theorem m_st2 (hx : x ≤ 1) (hy : y ≤ 1) (G : ∀ x y, x ≤ 1 → y ≤ 1 → S 55 (2 * (2 * x + y)) = gnV u v x y ∧ S 55 (2 * (2 * x + y) + 1) = gnV v u y x) : fX12_game_b95 5000 r x3 (iv ma) (iv mb) p.1 p.2 (nI (2 * x + y)) S = r x3 (iv ma) (iv mb) (gst ((decide (y = 0) || mb) && (ctV ma u v x y && ctV mb v u y x)) (10 * nI x + nI y) p).1 (gst ((decide (y = 0) || mb) && (ctV ma u v x y && ctV mb v u y x)) (10 * nI x + nI y) p).2 (nI (2 * x + y + 1)) S := by
  obtain ⟨e2, em⟩ := half2 hx hy
  unfold fX12_game_b95
  rw [em]
  by_cases hy0 : y = 0
  · rw [if_neg (by rw [hy0]; decide), decide_eq_true hy0, Bool.true_or, Bool.true_and]
    exact m_ca hx hy G
  · have hy1 : y = 1 := by omega
    rw [if_pos (by rw [hy1]; rfl), decide_eq_false hy0, Bool.false_or]
    unfold fX12_game_b103
    cases mb with
    | false =>
      rw [if_pos (show iv false = 0 from rfl), Bool.false_and, gst_f]
      unfold fX12_game_b108
      rw [m_sk]
    | true =>
      rw [if_neg (show ¬ iv true = 0 by decide), Bool.true_and]
      exact m_ca hx hy G
/-- one couple in the reference's last loop -/
theorem m_couple (hx : x ≤ 1) (hy : y ≤ 1) (G : ∀ x y, x ≤ 1 → y ≤ 1 → S 55 (2 * (2 * x + y)) = gnV u v x y ∧ S 55 (2 * (2 * x + y) + 1) = gnV v u y x) : fX12_game_b82 5000 r x3 (iv ma) (iv mb) p.1 p.2 (nI (2 * x + y)) S = r x3 (iv ma) (iv mb) (gst (okV ma mb u v x y) (10 * nI x + nI y) p).1 (gst (okV ma mb u v x y) (10 * nI x + nI y) p).2 (nI (2 * x + y + 1)) S := by
  obtain ⟨e2, em⟩ := half2 hx hy
  unfold fX12_game_b82
  rw [e2, okV_eq]
  by_cases hx0 : x = 0
  · rw [if_neg (by rw [hx0]; decide), decide_eq_true hx0, Bool.true_or, Bool.true_and]
    exact m_st2 hx hy G
  · have hx1 : x = 1 := by omega
    rw [if_pos (by rw [hx1]; rfl), decide_eq_false hx0, Bool.false_or]
    unfold fX12_game_b90
    cases ma with
    | false =>
      rw [if_pos (show iv false = 0 from rfl), Bool.false_and, gst_f, m_sk]
    | true =>
      rw [if_neg (show ¬ iv true = 0 by decide), Bool.true_and]
      exact m_st2 hx hy G
end
theorem st_game : Lw_game JJ := by
  intro SX SM x1 x2 x3 hJ
  obtain ⟨S1, Z, h, qs, hS1, c0, hJ1, Zk, h9, C, M, K, w41, x0, x5⟩ := pre hJ
  have z6 := Zk.2.1.2
  have hF : fX12_game 5000 x1 x2 x3 SM = if iv (inb x1 (tn1 Z)) = 0 then fX12_game_b30 5000 S1 else if iv (inb x2 (tn1 Z)) = 0 then fX12_game_b30 5000 S1 else fX12_game_b21 5000 x1 x2 x3 S1 := by
    unfold fX12_game fX12_game_b0
    dsimp only [lt]
    rw [← hS1, bnd_t (m_isGuild M.1.2.1 (by omega))]
    unfold fX12_game_b13
    rw [bnd_t (m_isGuild M.1.2.1 (by omega))]
  cases h1 : inb x1 (tn1 Z) with
  | false =>
    refine stFl 5000 5000 1 hJ one_ne (Or.inr (Or.inl rfl)) (ngF x5 (by omega) h1) ?_
    show fX12_game 5000 x1 x2 x3 SM = _
    rw [hF, h1, ← hS1]
    rfl
  | true =>
  cases h2 : inb x2 (tn1 Z) with
  | false =>
    refine stFl 5000 5000 1 hJ one_ne (Or.inr (Or.inl rfl)) ((ngT x5 (by omega) h1).trans (ngF x5 (by omega) h2)) ?_
    show fX12_game 5000 x1 x2 x3 SM = _
    rw [hF, h1, h2, ← hS1]
    rfl
  | true =>
  have hF2 : fX12_game 5000 x1 x2 x3 SM = fX12_game_b21 5000 x1 x2 x3 S1 := by
    rw [hF, h1, h2]
    rfl
  cases h3 : wth x3 0 1 with
  | false =>
    refine stFl 5000 5000 1 hJ one_ne (Or.inr (Or.inl rfl)) (((ngT x5 (by omega) h1).trans (ngT x5 (by omega) h2)).trans (nwF h3)) ?_
    show fX12_game 5000 x1 x2 x3 SM = _
    rw [hF2, ← hS1]
    unfold fX12_game_b21
    rcases w01F h3 with q | ⟨q1, q2⟩
    · rw [if_pos q]
      rfl
    · rw [if_neg q1]
      unfold fX12_game_b25
      rw [if_neg q2]
      rfl
  | true =>
  obtain ⟨y1, y2, -⟩ := w01T h3
  have hG : fX12_game 5000 x1 x2 x3 SM = if x1 = x2 then fX12_game_b41 5000 S1 else fX12_game_b47 5000 x1 x2 x3 S1 := by
    rw [hF2]
    unfold fX12_game_b21
    rw [if_neg y1]
    unfold fX12_game_b25
    rw [if_pos y2]
    rfl
  have hX : fX11_game 5000 x1 x2 x3 SX = if x1 = x2 then fX11_game_b20 5000 SX else fX11_game_b31 5000 x1 x2 x3 SX := ((ngT x5 (by omega) h1).trans (ngT x5 (by omega) h2)).trans (nwT h3)
  by_cases h12 : x1 = x2
  · refine stFl 5000 5000 2 hJ two_ne (Or.inr (Or.inr rfl)) ?_ ?_
    · show fX11_game 5000 x1 x2 x3 SX = _
      rw [hX, if_pos h12]
      rfl
    · show fX12_game 5000 x1 x2 x3 SM = _
      rw [hG, if_pos h12, ← hS1]
      rfl
  obtain ⟨a, ha, rfl⟩ := inb_of h1 (by omega)
  obtain ⟨b, hb, rfl⟩ := inb_of h2 (by omega)
  have hab : a ≠ b := fun q => h12 (by rw [q])
  obtain ⟨X2, p1, p2⟩ := x_game (x3 := x3) Zk C K ha hb h9
  obtain ⟨S3, r1, r2, r3, r4⟩ := m_tellGains Zk K.h ha hb hab h9 M w41 c0
  have hl : ∀ (x y : Nat) (f : Nat) (p : Int32 × Int32), x ≤ 1 → y ≤ 1 → fX12_game_h76 5000 (f + 1) x3 (iv (mayG qs a)) (iv (mayG qs b)) p.1 p.2 (nI (2 * x + y)) S3 = fX12_game_h76 5000 f x3 (iv (mayG qs a)) (iv (mayG qs b)) (gst (okV (mayG qs a) (mayG qs b) (quG Z (SX 21 1) h qs a) (quG Z (SX 21 1) h qs b) x y) (10 * nI x + nI y) p).1 (gst (okV (mayG qs a) (mayG qs b) (quG Z (SX 21 1) h qs a) (quG Z (SX 21 1) h qs b) x y) (10 * nI x + nI y) p).2 (nI (2 * x + y + 1)) S3 := by
    intro x y f p hx hy
    show fX12_game_b76 5000 (fX12_game_h76 5000 f) x3 _ _ p.1 p.2 (nI (2 * x + y)) S3 = _
    unfold fX12_game_b76
    rw [if_neg (show ¬ (4 : Int32) ≤ nI (2 * x + y) from nI_ge (b := 4) (by omega) (by decide))]
    exact m_couple hx hy r4
  refine stSu 5000 5000 (if x3 = 0 then (fiV (mayG qs a) (mayG qs b) (quG Z (SX 21 1) h qs a) (quG Z (SX 21 1) h qs b)).1 else (fiV (mayG qs a) (mayG qs b) (quG Z (SX 21 1) h qs a) (quG Z (SX 21 1) h qs b)).2) hJ rfl (Or.inl rfl) ⟨(0, (if x3 = 0 then (fiV (mayG qs a) (mayG qs b) (quG Z (SX 21 1) h qs a) (quG Z (SX 21 1) h qs b)).1 else (fiV (mayG qs a) (mayG qs b) (quG Z (SX 21 1) h qs a) (quG Z (SX 21 1) h qs b)).2), X2), ?_, rfl, rfl, xWk.same p2⟩ ⟨((if x3 = 0 then (fiV (mayG qs a) (mayG qs b) (quG Z (SX 21 1) h qs a) (quG Z (SX 21 1) h qs b)).1 else (fiV (mayG qs a) (mayG qs b) (quG Z (SX 21 1) h qs a) (quG Z (SX 21 1) h qs b)).2), S3), ?_, rfl, by rw [← hS1]; exact r2, r3⟩
  · show fX11_game 5000 (nI a) (nI b) x3 SX = _
    rw [hX, if_neg h12]
    exact p1
  · show fX12_game 5000 (nI a) (nI b) x3 SM = _
    rw [hG, if_neg h12]
    unfold fX12_game_b47
    rw [bnd_t (m_canConfess Zk M ha)]
    dsimp only
    rw [bnd_t (m_canConfess Zk M hb)]
    dsimp only
    rw [bnd_t r1]
    show fX12_game_h76 5000 5000 x3 (iv (mayG qs a)) (iv (mayG qs b)) (0, -1).1 ((0 : Int32), (-1 : Int32)).2 (nI (2 * 0 + 0)) S3 = _
    rw [hl 0 0 4999 (0, -1) (by omega) (by omega)]
    show fX12_game_h76 5000 4999 x3 (iv (mayG qs a)) (iv (mayG qs b)) _ _ (nI (2 * 0 + 1)) S3 = _
    rw [hl 0 1 4998 _ (by omega) (by omega)]
    show fX12_game_h76 5000 4998 x3 (iv (mayG qs a)) (iv (mayG qs b)) _ _ (nI (2 * 1 + 0)) S3 = _
    rw [hl 1 0 4997 _ (by omega) (by omega)]
    show fX12_game_h76 5000 4997 x3 (iv (mayG qs a)) (iv (mayG qs b)) _ _ (nI (2 * 1 + 1)) S3 = _
    rw [hl 1 1 4996 _ (by omega) (by omega)]
    show fX12_game_b208 5000 x3 (fiV (mayG qs a) (mayG qs b) (quG Z (SX 21 1) h qs a) (quG Z (SX 21 1) h qs b)).1 (fiV (mayG qs a) (mayG qs b) (quG Z (SX 21 1) h qs a) (quG Z (SX 21 1) h qs b)).2 S3 = _
    unfold fX12_game_b208
    by_cases hx : x3 = 0
    · rw [if_pos hx, if_pos hx]; rfl
    · rw [if_neg hx, if_neg hx]; rfl
end

/-! part 64.afeed -/
section
/-! feed -/
noncomputable def byB (x : Int32) (k : Nat) : Int32 := (x >>> (nI (24 - 8 * k) &&& 31)) &&& 255
theorem bb_255 : ∀ i, i < 32 → bb 255 i = decide (i < 8) := by decide +kernel
theorem byte_255 (z : Int32) : (vp_nar .byte (Int32.toInt8 z).toInt32) &&& 255 = z &&& 255 := by
  rw [pk_vb]
  refine bb_ext (fun i hi => ?_)
  rw [bb_and, bb_and, bb_255 i hi]
  by_cases h8 : i < 8
  · rw [decide_eq_true h8, Bool.and_true, Bool.and_true]
    unfold bb
    rw [Int8.toBitVec_toInt32, Int32.toBitVec_toInt8, BitVec.getLsbD_signExtend, if_pos h8, BitVec.getLsbD_signExtend, if_pos hi]
    simp [hi, h8]
  · rw [decide_eq_false h8, Bool.and_false, Bool.and_false]
theorem byB_n (x : Int32) (k : Nat) : ∃ y : Nat, y < 256 ∧ byB x k = nI y := pk_andE (m := 255) _ 8 rfl
theorem x_add {S : gS} {n : Nat} {x : Int32} (hn : S 2 1 = nI n) (h7 : n + 4 ≤ 700) : ∃ S', fX8_add 5000 x S = some (0, S') ∧ S' 2 1 = nI (n + 4) ∧ (∀ i j, ¬ (i = 2 ∧ j = 1) → ¬ (i = 3 ∧ n ≤ j) → S' i j = S i j) ∧ ∀ k, k < 4 → (S' 3 (n + k) &&& 255) = byB x k := by
  have main : Gv (fX8_add_h3 5000 5000 x 24 S) (fun r => r.1 = 0 ∧ r.2 2 1 = nI (n + 4) ∧ (∀ i j, ¬ (i = 2 ∧ j = 1) → ¬ (i = 3 ∧ n ≤ j) → r.2 i j = S i j) ∧ ∀ k, k < 4 → (r.2 3 (n + k) &&& 255) = byB x k) := by
    have sh : ∀ k, k < 4 → (nI (24 - 8 * k) + (-8) : Int32) = (if k = 3 then -8 else nI (24 - 8 * (k + 1))) ∧ ¬ nI (24 - 8 * k) < 0 := by decide +kernel
    refine loopG (A := gS) (fun f k S => fX8_add_h3 5000 f x (if k = 4 then -8 else nI (24 - 8 * k)) S) (fun k S' => S' 2 1 = nI (n + k) ∧ (∀ i j, ¬ (i = 2 ∧ j = 1) → ¬ (i = 3 ∧ n ≤ j) → S' i j = S i j) ∧ ∀ t, t < k → (S' 3 (n + t) &&& 255) = byB x t) _ 4 ?_ ?_ 4 0 S 5000 (by omega) ⟨hn, fun _ _ _ _ => rfl, fun t ht => by omega⟩ (by omega)
    · rintro f S1 ⟨i1, i2, i3⟩
      exact ⟨(0, S1), rfl, rfl, i1, i2, i3⟩
    · rintro f k S1 hk ⟨i1, i2, i3⟩
      refine Or.inr ⟨sU (sU S1 3 (n + k) (vp_nar .byte (Int32.toInt8 (x >>> (nI (24 - 8 * k) &&& 31))).toInt32)) 2 1 (nI (n + (k + 1))), ⟨sU_s, fun i j h1 h2 => by rw [sU_n h1, sU_n (by omega)]; exact i2 i j h1 h2, fun t ht => ?_⟩, ?_⟩
      · rw [sU_n (by omega)]
        by_cases hh : t = k
        · subst hh
          rw [sU_s, byte_255]
          rfl
        · rw [sU_n (by omega)]; exact i3 t (by omega)
      · show fX8_add_b3 5000 (fX8_add_h3 5000 f) x (if k = 4 then -8 else nI (24 - 8 * k)) S1 = fX8_add_h3 5000 f x (if k + 1 = 4 then -8 else nI (24 - 8 * (k + 1))) _
        rw [if_neg (show ¬ k = 4 by omega)]
        unfold fX8_add_b3
        rw [if_neg (sh k hk).2]
        unfold fX8_add_b7
        rw [i1, if_neg (show ¬ (700 : Int32) ≤ nI (n + k) from nI_ge (b := 700) (by omega) (by decide))]
        unfold fX8_add_b19
        dsimp only [lt]
        rw [i1, nI_clamp (by omega), chk_t (inb_t (by omega) (by decide)), sU_n (i := 2) (by omega), i1, nI_1]
        unfold fX8_add_b42
        rw [(sh k hk).1]
        by_cases h3 : k = 3
        · rw [if_pos h3, if_pos (show k + 1 = 4 by omega)]
          rfl
        · rw [if_neg h3, if_neg (show ¬ k + 1 = 4 by omega)]
          rfl
  obtain ⟨⟨v, S'⟩, r1, r2, r3⟩ := main
  dsimp only at r2 r3
  subst r2
  exact ⟨S', r1, r3⟩
noncomputable def wd5 (a b c d e : Int32) (k : Nat) : Int32 := if k < 4 then a else if k < 8 then b else if k < 12 then c else if k < 16 then d else e
theorem m_feed_h {S : gS} {n : Nat} {a b c d e : Int32} (hn : S 99 20 = nI n) (h7 : n + 20 ≤ 700) : ∃ S', fX12_feed_h23 5000 5000 a b c d e 0 S = some (nI (n + 20), S') ∧ S' 99 20 = nI (n + 20) ∧ (∀ i j, ¬ (i = 99 ∧ j = 20) → ¬ (i = 19 ∧ n ≤ j) → S' i j = S i j) ∧ ∀ k, k < 20 → S' 19 (n + k) = byB (wd5 a b c d e k) (k % 4) := by
  have main : Gv (fX12_feed_h23 5000 5000 a b c d e 0 S) (fun r => r.1 = nI (n + 20) ∧ r.2 99 20 = nI (n + 20) ∧ (∀ i j, ¬ (i = 99 ∧ j = 20) → ¬ (i = 19 ∧ n ≤ j) → r.2 i j = S i j) ∧ ∀ k, k < 20 → r.2 19 (n + k) = byB (wd5 a b c d e k) (k % 4)) := by
    refine loopG (A := gS) (fun f k S => fX12_feed_h23 5000 f a b c d e (nI k) S) (fun k S' => S' 99 20 = nI (n + k) ∧ (∀ i j, ¬ (i = 99 ∧ j = 20) → ¬ (i = 19 ∧ n ≤ j) → S' i j = S i j) ∧ ∀ t, t < k → S' 19 (n + t) = byB (wd5 a b c d e t) (t % 4)) _ 20 ?_ ?_ 20 0 S 5000 (by omega) ⟨hn, fun _ _ _ _ => rfl, fun t ht => by omega⟩ (by omega)
    · rintro f S1 ⟨i1, i2, i3⟩
      exact ⟨(S1 99 20, S1), rfl, i1, i1, i2, i3⟩
    · rintro f k S1 hk ⟨i1, i2, i3⟩
      refine Or.inr ⟨sU (sU S1 19 (n + k) (byB (wd5 a b c d e k) (k % 4))) 99 20 (nI (n + (k + 1))), ⟨sU_s, fun i j h1 h2 => by rw [sU_n h1, sU_n (by omega)]; exact i2 i j h1 h2, fun t ht => ?_⟩, ?_⟩
      · rw [sU_n (by omega)]
        by_cases hh : t = k
        · subst hh
          rw [sU_s]
        · rw [sU_n (by omega)]; exact i3 t (by omega)
      · have b76 : ∀ w, w = wd5 a b c d e k → fX12_feed_b76 5000 (fX12_feed_h23 5000 f) a b c d e (nI k) w S1 = fX12_feed_h23 5000 f a b c d e (nI (k + 1)) (sU (sU S1 19 (n + k) (byB (wd5 a b c d e k) (k % 4))) 99 20 (nI (n + (k + 1)))) := by
          intro w hw
          subst hw
          unfold fX12_feed_b76
          have e24 : (24 : Int32) - 8 * (nI k - nI k / 4 * 4) = nI (24 - 8 * (k % 4)) := by
            rw [show (4 : Int32) = nI 4 from rfl, pk_rem (by omega) (by decide) (by decide), show (8 : Int32) = nI 8 from rfl, pk_mul, show (24 : Int32) = nI 24 from rfl, pk_sub (by have := Nat.mod_lt k (show 0 < 4 by decide); omega)]
          dsimp only [lt]
          rw [e24, i1, nI_clamp (by omega), chk_t (inb_t (by omega) (by decide)), sU_n (i := 99) (by omega), i1, nI_1, nI_1]
          rfl
        show fX12_feed_b23 5000 (fX12_feed_h23 5000 f) a b c d e (nI k) S1 = _
        unfold fX12_feed_b23
        rw [if_neg (show ¬ (20 : Int32) ≤ nI k from nI_ge (b := 20) hk (by decide))]
        unfold fX12_feed_b30
        by_cases h4 : 4 ≤ k
        · rw [if_pos (show (4 : Int32) ≤ nI k from nI_le (a := 4) h4 (by omega))]
          unfold fX12_feed_b40
          by_cases h8 : 8 ≤ k
          · rw [if_pos (show (8 : Int32) ≤ nI k from nI_le (a := 8) h8 (by omega))]
            unfold fX12_feed_b51
            by_cases h12 : 12 ≤ k
            · rw [if_pos (show (12 : Int32) ≤ nI k from nI_le (a := 12) h12 (by omega))]
              unfold fX12_feed_b62
              by_cases h16 : 16 ≤ k
              · rw [if_pos (show (16 : Int32) ≤ nI k from nI_le (a := 16) h16 (by omega))]
                exact b76 e (by unfold wd5; rw [if_neg (by omega), if_neg (by omega), if_neg (by omega), if_neg (by omega)])
              · rw [if_neg (show ¬ (16 : Int32) ≤ nI k from nI_ge (b := 16) (by omega) (by decide))]
                exact b76 d (by unfold wd5; rw [if_neg (by omega), if_neg (by omega), if_neg (by omega), if_pos (by omega)])
            · rw [if_neg (show ¬ (12 : Int32) ≤ nI k from nI_ge (b := 12) (by omega) (by decide))]
              exact b76 c (by unfold wd5; rw [if_neg (by omega), if_neg (by omega), if_pos (by omega)])
          · rw [if_neg (show ¬ (8 : Int32) ≤ nI k from nI_ge (b := 8) (by omega) (by decide))]
            exact b76 b (by unfold wd5; rw [if_neg (by omega), if_pos (by omega)])
        · rw [if_neg (show ¬ (4 : Int32) ≤ nI k from nI_ge (b := 4) (by omega) (by decide))]
          exact b76 a (by unfold wd5; rw [if_pos (by omega)])
  obtain ⟨⟨v, S'⟩, r1, r2, r3⟩ := main
  dsimp only at r2 r3
  subst r2
  exact ⟨S', r1, r3⟩
/-- only the tape changes -/
theorem JJ.tape {SX SM SX' SM' : gS} (h : JJ SX SM) (x : ∀ i j, ¬ (i = 2 ∧ j = 1) → i ≠ 3 → SX' i j = SX i j) (m : ∀ i j, ¬ (i = 99 ∧ j = 20) → i ≠ 19 → SM' i j = SM i j) (ht : jTape SX' SM') : JJ SX' SM' := by
  obtain ⟨n0, n1, h1, h2, h3, h4, h5⟩ := h
  have htw : xtw SX' = xtw SX := by
    unfold xtw
    rw [x 0 7 (by omega) (by omega)]
  refine ⟨n0, n1, ?_, ?_, ?_, ht, ?_⟩
  · rw [htw]
    refine h1.on2 (fun i j a b => x _ _ ?_ ?_) (fun j => m 5 j (by omega) (by omega)) (fun j => m 6 j (by omega) (by omega)) (fun j => m 7 j (by omega) (by omega)) (fun j => m 8 j (by omega) (by omega)) (fun j => m 9 j (by omega) (by omega)) (fun j => m 14 j (by omega) (by omega)) (fun j => m 15 j (by omega) (by omega)) (fun j => m 16 j (by omega) (by omega)) (fun j => m 18 j (by omega) (by omega))
    · have := xtw_cases (S := SX)
      omega
    · have := xtw_cases (S := SX)
      omega
  · refine jBook.on h2 (fun i a b => funext fun j => x _ _ (by omega) (by omega)) (fun c g a b => ?_) (m 99 39 (by omega) (by omega)) (m 99 40 (by omega) (by omega)) (funext fun j => m _ _ (by omega) (by omega)) (funext fun j => m _ _ (by omega) (by omega)) (funext fun j => m _ _ (by omega) (by omega)) (funext fun j => m _ _ (by omega) (by omega)) (funext fun j => m _ _ (by omega) (by omega))
    unfold mSt
    by_cases h0 : c = 0
    · rw [if_pos h0, if_pos h0, m _ _ (by omega) (by omega)]
    · rw [if_neg h0, if_neg h0, m _ _ (by omega) (by omega)]
  · exact jPic.on h3 (x 0 8 (by omega) (by omega)) (fun i j a b => x _ _ (by omega) (by omega)) (fun i j a b => m _ _ (by omega) (by omega)) (m 99 57 (by omega) (by omega)) (m 99 58 (by omega) (by omega)) (m 99 59 (by omega) (by omega))
  · unfold jMisc at h5 ⊢
    rw [x 1 3 (by omega) (by omega), m 99 29 (by omega) (by omega), m 99 41 (by omega) (by omega), x 0 7 (by omega) (by omega), x 1 1 (by omega) (by omega), x 14 2 (by omega) (by omega), x 17 2 (by omega) (by omega), x 82 2 (by omega) (by omega), x 85 2 (by omega) (by omega)]
    exact h5
theorem st_feed : Lw_feed JJ := by
  intro SX SM a b c d e hJ
  have hJ1 := hJ.same xSame.rf (code_same SM 0)
  obtain ⟨S1, hS1⟩ : ∃ z, z = sU SM 99 4 0 := ⟨_, rfl⟩
  rw [← hS1] at hJ1
  obtain ⟨n0, n1, hT, hN, hI, ⟨n, p1, p2, p3, p4⟩, hM⟩ := id hJ1
  have hX : fX11_feed 5000 a b c d e SX = if nI (n + 20) ≤ 700 then fX11_feed_b25 5000 a b c d e SX else fX11_feed_b23 5000 SX := by
    unfold fX11_feed fX11_feed_b0
    rw [p2, show (20 : Int32) = nI 20 from rfl, nI_add]
  have hMM : fX12_feed 5000 a b c d e SM = if nI (n + 20) ≤ 700 then fX12_feed_b20 5000 a b c d e S1 else fX12_feed_b18 5000 S1 := by
    unfold fX12_feed fX12_feed_b0
    dsimp only [lt]
    rw [← hS1, p3, show (20 : Int32) = nI 20 from rfl, nI_add]
  by_cases h7 : n + 20 ≤ 700
  · have hl : nI (n + 20) ≤ 700 := nI_le (b := 700) h7 (by decide)
    obtain ⟨X1, a1, a2, a3, a4⟩ := x_add (x := a) p2 (by omega)
    obtain ⟨X2, b1, b2, b3, b4⟩ := x_add (x := b) a2 (by omega)
    obtain ⟨X3, c1, c2, c3, c4⟩ := x_add (x := c) b2 (by omega)
    obtain ⟨X4, d1, d2, d3, d4⟩ := x_add (x := d) c2 (by omega)
    obtain ⟨X5, e1, e2, e3, e4⟩ := x_add (x := e) d2 (by omega)
    obtain ⟨M2, f1, f2, f3, f4⟩ := m_feed_h (a := a) (b := b) (c := c) (d := d) (e := e) p3 h7
    refine ⟨5000, (nI (n + 20), X5), 5000, (nI (n + 20), M2), ?_, ?_, rfl, ?_⟩
    · show fX11_feed 5000 a b c d e SX = _
      rw [hX, if_pos hl]
      unfold fX11_feed_b25
      rw [bnd_t a1]
      dsimp only
      rw [bnd_t b1]
      dsimp only
      rw [bnd_t c1]
      dsimp only
      rw [bnd_t d1]
      dsimp only
      rw [bnd_t e1]
      dsimp only
      rw [e2]
    · show fX12_feed 5000 a b c d e SM = _
      rw [hMM, if_pos hl]
      exact f1
    · show JJ X5 M2
      refine hJ1.tape (fun i j h1 h2 => ?_) (fun i j h1 h2 => f3 i j h1 (by omega)) ⟨n + 20, h7, e2, f2, fun i hi => ?_⟩
      · rw [e3 i j h1 (by omega), d3 i j h1 (by omega), c3 i j h1 (by omega), b3 i j h1 (by omega), a3 i j h1 (by omega)]
      · by_cases h0 : i < n
        · rw [e3 3 i (by omega) (by omega), d3 3 i (by omega) (by omega), c3 3 i (by omega) (by omega), b3 3 i (by omega) (by omega), a3 3 i (by omega) (by omega), f3 19 i (by omega) (by omega)]
          exact p4 i h0
        · obtain ⟨k, rfl⟩ : ∃ k, i = n + k := ⟨i - n, by omega⟩
          have hk : k < 20 := by omega
          obtain ⟨y, y1, y2⟩ := byB_n (wd5 a b c d e k) (k % 4)
          refine ⟨y, y1, ?_, by rw [f4 k hk]; exact y2⟩
          rw [← y2]
          by_cases q4 : k < 4
          · rw [e3 3 _ (by omega) (by omega), d3 3 _ (by omega) (by omega), c3 3 _ (by omega) (by omega), b3 3 _ (by omega) (by omega), a4 k q4, show k % 4 = k by omega]
            unfold wd5
            rw [if_pos q4]
          by_cases q8 : k < 8
          · rw [e3 3 _ (by omega) (by omega), d3 3 _ (by omega) (by omega), c3 3 _ (by omega) (by omega), show n + k = n + 4 + (k - 4) by omega, b4 (k - 4) (by omega), show k % 4 = k - 4 by omega]
            unfold wd5
            rw [if_neg q4, if_pos q8]
          by_cases q12 : k < 12
          · rw [e3 3 _ (by omega) (by omega), d3 3 _ (by omega) (by omega), show n + k = n + 4 + 4 + (k - 8) by omega, c4 (k - 8) (by omega), show k % 4 = k - 8 by omega]
            unfold wd5
            rw [if_neg q4, if_neg q8, if_pos q12]
          by_cases q16 : k < 16
          · rw [e3 3 _ (by omega) (by omega), show n + k = n + 4 + 4 + 4 + (k - 12) by omega, d4 (k - 12) (by omega), show k % 4 = k - 12 by omega]
            unfold wd5
            rw [if_neg q4, if_neg q8, if_neg q12, if_pos q16]
          · rw [show n + k = n + 4 + 4 + 4 + 4 + (k - 16) by omega, e4 (k - 16) (by omega), show k % 4 = k - 16 by omega]
            unfold wd5
            rw [if_neg q4, if_neg q8, if_neg q12, if_neg q16]
  · have hl : ¬ nI (n + 20) ≤ 700 := nI_ge (a := 700) (by omega) (by omega)
    refine ⟨5000, (-1, SX), 5000, (-1, S1), ?_, ?_, rfl, hJ1⟩
    · show fX11_feed 5000 a b c d e SX = _
      rw [hX, if_neg hl]
      rfl
    · show fX12_feed 5000 a b c d e SM = _
      rw [hMM, if_neg hl]
      rfl
end

/-! part 65.arhythm -/
section
/-! what comes round: numbers -/
theorem lc_least {a b : Nat} (ha : 0 < a) (hb : 0 < b) : ∃ t, 1 ≤ t ∧ t ≤ b ∧ a * t % b = 0 ∧ (∀ s, 1 ≤ s → s < t → a * s % b ≠ 0) ∧ a * t = Nat.lcm a b := by
  obtain ⟨t, ⟨t1, t2⟩, t3⟩ := pk_least (fun t => 1 ≤ t ∧ a * t % b = 0) ⟨b, hb, Nat.mul_mod_left a b⟩
  have tb : t ≤ b := Nat.le_of_not_lt (fun q => t3 b q ⟨hb, Nat.mul_mod_left a b⟩)
  refine ⟨t, t1, tb, t2, fun s s1 s2 q => t3 s s2 ⟨s1, q⟩, ?_⟩
  have d1 : Nat.lcm a b ∣ a * t := Nat.lcm_dvd (Nat.dvd_mul_right a t) (Nat.dvd_of_mod_eq_zero t2)
  obtain ⟨s, hs⟩ := Nat.dvd_lcm_left a b
  have lp : 0 < Nat.lcm a b := Nat.lcm_pos ha hb
  have s1 : 1 ≤ s := by
    rcases Nat.eq_zero_or_pos s with q | q
    · rw [q, Nat.mul_zero] at hs; omega
    · exact q
  have s2 : a * s % b = 0 := by
    rw [← hs]
    exact Nat.mod_eq_zero_of_dvd (Nat.dvd_lcm_right a b)
  have ts : t ≤ s := Nat.le_of_not_lt (fun q => t3 s q ⟨s1, s2⟩)
  have h1 : a * t ≤ Nat.lcm a b := by
    rw [hs]
    exact Nat.mul_le_mul_left a ts
  have h2 : Nat.lcm a b ≤ a * t := Nat.le_of_dvd (Nat.mul_pos ha t1) d1
  omega
theorem lcm_27720 {a b : Nat} (ha : a ∣ 27720) (h1 : 1 ≤ b) (h2 : b ≤ 12) : Nat.lcm a b ∣ 27720 := by
  refine Nat.lcm_dvd ha ?_
  rcases (show b = 1 ∨ b = 2 ∨ b = 3 ∨ b = 4 ∨ b = 5 ∨ b = 6 ∨ b = 7 ∨ b = 8 ∨ b = 9 ∨ b = 10 ∨ b = 11 ∨ b = 12 by omega) with rfl | rfl | rfl | rfl | rfl | rfl | rfl | rfl | rfl | rfl | rfl | rfl <;> decide
theorem x_leastCommon {N a b : Nat} {S : gS} (ha : 0 < a) (ha2 : a ∣ 27720) (h1 : 1 ≤ b) (h2 : b ≤ 12) (hN : 20 < N) : fX11_leastCommon N (nI a) (nI b) S = some (nI (Nat.lcm a b), S) := by
  obtain ⟨t, t1, t2, t3, t4, t5⟩ := lc_least (b := b) ha h1
  have hl : a * t ≤ 27720 := by rw [t5]; exact Nat.le_of_dvd (by decide) (lcm_27720 ha2 h1 h2)
  have main : ∀ (m i fuel : Nat), i + m = t → 1 ≤ i → m < fuel → fX11_leastCommon_h4 N fuel (nI a) (nI b) (nI (a * i)) (nI i) S = some (nI (a * t), S) := by
    intro m
    induction m with
    | zero =>
      intro i fuel h3 h4 h5
      obtain ⟨f, rfl⟩ : ∃ f, fuel = f + 1 := ⟨fuel - 1, by omega⟩
      have : i = t := by omega
      subst this
      show fX11_leastCommon_b4 N _ (nI a) (nI b) (nI (a * i)) (nI i) S = _
      unfold fX11_leastCommon_b4
      by_cases hb : b ≤ i
      · rw [if_pos (nI_le hb (by omega))]
        rfl
      · rw [if_neg (nI_ge (by omega) (by omega))]
        unfold fX11_leastCommon_b9
        rw [chk_t (nz_t (by omega) (by omega)), pk_rem (by omega) (by omega) (by omega), t3, if_pos (show nI 0 = 0 from rfl)]
        rfl
    | succ m ih =>
      intro i fuel h3 h4 h5
      obtain ⟨f, rfl⟩ : ∃ f, fuel = f + 1 := ⟨fuel - 1, by omega⟩
      have hai : a * i ≤ a * t := Nat.mul_le_mul_left a (by omega)
      show fX11_leastCommon_b4 N (fX11_leastCommon_h4 N f) (nI a) (nI b) (nI (a * i)) (nI i) S = _
      unfold fX11_leastCommon_b4
      rw [if_neg (nI_ge (by omega) (by omega))]
      unfold fX11_leastCommon_b9
      have hr : a * i % b < b := Nat.mod_lt _ (by omega)
      have hne := t4 i h4 (by omega)
      rw [chk_t (nz_t (by omega) (by omega)), pk_rem (by omega) (by omega) (by omega), if_neg (nI_ne0 (by omega) (by omega))]
      unfold fX11_leastCommon_b15
      rw [nI_1, nI_add, show a * i + a = a * (i + 1) from (Nat.mul_succ a i).symm]
      exact ih (i + 1) f (by omega) (by omega) (by omega)
  have h := main (t - 1) 1 N (by omega) (by omega) (by omega)
  rw [Nat.mul_one, t5] at h
  exact h
noncomputable def dpZ (Z : gS) (k : Nat) : Nat := (Z 1 k).toNatClampNeg
noncomputable def phZ (Z : gS) (k : Nat) : Nat := (Z 2 k).toNatClampNeg
theorem dp_ok {Z : gS} {k : Nat} (Zk : tOK Z) (hk : k < tn0 Z) : Z 1 k = nI (dpZ Z k) ∧ 1 ≤ dpZ Z k ∧ dpZ Z k ≤ 12 ∧ Z 2 k = nI (phZ Z k) ∧ phZ Z k ≤ 11 := by
  obtain ⟨⟨x, x1, x2, x3⟩, ⟨y, y1, y2⟩, -⟩ := Zk.2.2.2.2.1 k hk
  unfold dpZ phZ
  rw [x3, y2, nI_clamp (by omega), nI_clamp (by omega)]
  exact ⟨rfl, x1, x2, rfl, y1⟩
noncomputable def rhN (Z : gS) (so : Int32) : Nat → Nat
  | 0 => 1
  | k + 1 => if bt so (nI k) = true then Nat.lcm (rhN Z so k) (dpZ Z k) else rhN Z so k
theorem rh_ok {Z : gS} {so : Int32} (Zk : tOK Z) : ∀ k, k ≤ tn0 Z → 0 < rhN Z so k ∧ rhN Z so k ∣ 27720 := by
  intro k
  induction k with
  | zero => intro _; exact ⟨Nat.zero_lt_one, Nat.one_dvd _⟩
  | succ k ih =>
    intro hk
    obtain ⟨i1, i2⟩ := ih (by omega)
    obtain ⟨d1, d2, d3, -⟩ := dp_ok Zk (show k < tn0 Z by omega)
    show 0 < (if bt so (nI k) = true then Nat.lcm (rhN Z so k) (dpZ Z k) else rhN Z so k) ∧ (if bt so (nI k) = true then Nat.lcm (rhN Z so k) (dpZ Z k) else rhN Z so k) ∣ 27720
    by_cases hb : bt so (nI k) = true
    · rw [if_pos hb]; exact ⟨Nat.lcm_pos i1 (by omega), lcm_27720 i2 d2 d3⟩
    · rw [if_neg hb]; exact ⟨i1, i2⟩
theorem shl_m : ∀ n, n < 9 → (1 : Int32) <<< (nI n &&& 31) = nI (2 ^ n) := by decide +kernel
theorem x_needGrottoes {N n : Nat} {S : gS} {x : Int32} (h : S (xtw S) 0 = nI n) (hn : n ≤ 8) : fX11_needGrottoes N x S = some (if inb x (2 ^ n) = true then 0 else 2, 0, S) := by
  have hp := pow256 hn
  unfold fX11_needGrottoes fX11_needGrottoes_b0
  rcases pk_ix x (n := 2 ^ n) (by omega) with h1 | h1 | ⟨j, hj, rfl⟩
  · rw [if_pos h1, inb_f1 h1]
    rfl
  · rw [inb_f2 (by omega) h1]
    by_cases h2 : x < 0
    · rw [if_pos h2]
      rfl
    · rw [if_neg h2]
      unfold fX11_needGrottoes_b4
      dsimp only [lt]
      rw [h, shl_m n (by omega), if_neg (Int32.not_lt.mpr h1)]
      rfl
  · rw [inb_t hj (by omega), if_neg (nI_pos (by omega))]
    unfold fX11_needGrottoes_b4
    dsimp only [lt]
    rw [h, shl_m n (by omega), if_pos (nI_lt hj (by omega))]
    rfl
theorem m_isSome {N n : Nat} {S : gS} {x : Int32} (h : S 5 0 = nI n) (hn : n ≤ 8) : fX12_isSome N x S = some (iv (inb x (2 ^ n)), S) := by
  have hp := pow256 hn
  unfold fX12_isSome fX12_isSome_b0
  rw [h, shl_m n (by omega), bnd_t m_isIn0, wth_inb (by omega)]
  exact chk_t zb_iv
theorem st_rhythm : Lw_rhythm JJ := by
  intro SX SM x1 hJ
  obtain ⟨S1, Z, h, qs, hS1, c0, hJ1, Zk, h9, C, M, K, w41, x0, x5⟩ := pre hJ
  have z8 := Zk.1.2
  have hF : fX12_rhythm 50000 x1 SM = if iv (inb x1 (2 ^ tn0 Z)) = 0 then fX12_rhythm_b13 50000 S1 else fX12_rhythm_b19 50000 x1 S1 := by
    unfold fX12_rhythm fX12_rhythm_b0
    dsimp only [lt]
    rw [← hS1, bnd_t (m_isSome M.1.1 z8)]
  cases h1 : inb x1 (2 ^ tn0 Z) with
  | false =>
    refine stFl 50000 50000 2 hJ two_ne (Or.inr rfl) ?_ ?_
    · show fX11_rhythm_b0 50000 x1 SX = _
      unfold fX11_rhythm_b0
      rw [bnx_x (x_needGrottoes x0 z8) (by rw [h1]; exact two_ne), h1]
      rfl
    · show fX12_rhythm 50000 x1 SM = _
      rw [hF, h1, ← hS1]
      rfl
  | true =>
  refine stSu 50000 50000 (nI (rhN Z x1 (tn0 Z))) hJ rfl (Or.inl rfl) ?_ ?_
  · have e : fX11_rhythm 50000 x1 SX = fX11_rhythm_h9 50000 50000 x1 1 0 SX := by
      show fX11_rhythm_b0 50000 x1 SX = _
      unfold fX11_rhythm_b0
      rw [bnx_t (x_needGrottoes x0 z8) (by rw [h1]; rfl)]
    show Gv (fX11_rhythm 50000 x1 SX) _
    rw [e]
    refine loopG (A := Unit) (fun f k _ => fX11_rhythm_h9 50000 f x1 (nI (rhN Z x1 k)) (nI k) SX) (fun _ _ => True) _ (tn0 Z) ?_ ?_ (tn0 Z) 0 () 50000 (by omega) trivial (by omega)
    · rintro f a -
      refine ⟨(0, nI (rhN Z x1 (tn0 Z)), SX), ?_, rfl, rfl, xSame.rf⟩
      show fX11_rhythm_b9 50000 _ x1 _ (nI (tn0 Z)) SX = _
      unfold fX11_rhythm_b9
      dsimp only [lt]
      rw [x0, if_pos (nI_le (Nat.le_refl _) (by omega))]
      rfl
    · rintro f k a hk -
      refine Or.inr ⟨(), trivial, ?_⟩
      obtain ⟨d1, d2, d3, -⟩ := dp_ok Zk hk
      obtain ⟨r1, r2⟩ := rh_ok (so := x1) Zk k (by omega)
      show fX11_rhythm_b9 50000 (fX11_rhythm_h9 50000 f) x1 _ (nI k) SX = fX11_rhythm_h9 50000 f x1 (nI (if bt x1 (nI k) = true then Nat.lcm (rhN Z x1 k) (dpZ Z k) else rhN Z x1 k)) (nI (k + 1)) SX
      unfold fX11_rhythm_b9
      dsimp only [lt]
      rw [x0, if_neg (nI_ge hk (by omega))]
      unfold fX11_rhythm_b20
      rw [bnd_t x_isOneOf]
      cases hb : bt x1 (nI k) with
      | false =>
        show fX11_rhythm_b42 50000 (fX11_rhythm_h9 50000 f) x1 (nI (rhN Z x1 k)) (nI k) SX = fX11_rhythm_h9 50000 f x1 (nI (rhN Z x1 k)) (nI (k + 1)) SX
        unfold fX11_rhythm_b42
        rw [nI_1]
      | true =>
        show fX11_rhythm_b28 50000 (fX11_rhythm_h9 50000 f) x1 (nI (rhN Z x1 k)) (nI k) SX = fX11_rhythm_h9 50000 f x1 (nI (Nat.lcm (rhN Z x1 k) (dpZ Z k))) (nI (k + 1)) SX
        unfold fX11_rhythm_b28
        dsimp only [lt]
        rw [chk_t (inb_t (by omega) (by decide)), nI_clamp (by omega), C.1 1 k (by omega) (by omega), d1, bnd_t (x_leastCommon r1 r2 d2 d3 (by decide))]
        unfold fX11_rhythm_b42
        rw [nI_1]
  · have e : fX12_rhythm 50000 x1 SM = fX12_rhythm_h23 50000 50000 x1 1 0 S1 := by
      rw [hF, h1]
      rfl
    show Gv (fX12_rhythm 50000 x1 SM) _
    rw [e, ← hS1]
    refine loopG (A := Unit) (fun f k _ => fX12_rhythm_h23 50000 f x1 (nI (rhN Z x1 k)) (nI k) S1) (fun _ _ => True) _ (tn0 Z) ?_ ?_ (tn0 Z) 0 () 50000 (by omega) trivial (by omega)
    · rintro f a -
      refine ⟨(nI (rhN Z x1 (tn0 Z)), S1), ?_, rfl, mSame.rf, c0⟩
      show fX12_rhythm_b23 50000 _ x1 _ (nI (tn0 Z)) S1 = _
      unfold fX12_rhythm_b23
      rw [M.1.1, if_pos (nI_le (Nat.le_refl _) (by omega))]
      rfl
    · rintro f k a hk -
      refine Or.inr ⟨(), trivial, ?_⟩
      obtain ⟨d1, d2, d3, -⟩ := dp_ok Zk hk
      obtain ⟨r1, r2⟩ := rh_ok (so := x1) Zk k (by omega)
      show fX12_rhythm_b23 50000 (fX12_rhythm_h23 50000 f) x1 _ (nI k) S1 = fX12_rhythm_h23 50000 f x1 (nI (if bt x1 (nI k) = true then Nat.lcm (rhN Z x1 k) (dpZ Z k) else rhN Z x1 k)) (nI (k + 1)) S1
      unfold fX12_rhythm_b23
      rw [M.1.1, if_neg (nI_ge hk (by omega))]
      unfold fX12_rhythm_b33
      have e7 : S1 7 k = nI (dpZ Z k) := (M.1.2.2.2.2.2.2.2.1 k hk).1.trans d1
      cases hb : bt x1 (nI k) with
      | false =>
        rw [if_neg (by decide)]
        show fX12_rhythm_b36 50000 (fX12_rhythm_h23 50000 f) (fX12_rhythm_h36 50000 (fX12_rhythm_h23 50000 f) 49999) x1 (nI (rhN Z x1 k)) (nI k) (nI (rhN Z x1 k)) S1 = _
        unfold fX12_rhythm_b36
        rw [bnd_t m_isOf, hb]
        show fX12_rhythm_b63 50000 (fX12_rhythm_h23 50000 f) x1 (nI (rhN Z x1 k)) (nI k) S1 = _
        unfold fX12_rhythm_b63
        rw [nI_1]
      | true =>
        rw [if_pos rfl]
        obtain ⟨t, t1, t2, t3, t4, t5⟩ := lc_least (b := dpZ Z k) r1 d2
        have hl : rhN Z x1 k * t ≤ 27720 := by rw [t5]; exact Nat.le_of_dvd (by decide) (lcm_27720 r2 d2 d3)
        rw [← t5]
        suffices L : ∀ (m i fuel : Nat), i + m = t → 1 ≤ i → m < fuel → fX12_rhythm_h36 50000 (fX12_rhythm_h23 50000 f) fuel x1 (nI (rhN Z x1 k * i)) (nI k) (nI (rhN Z x1 k)) S1 = fX12_rhythm_h23 50000 f x1 (nI (rhN Z x1 k * t)) (nI (k + 1)) S1 by
          have h := L (t - 1) 1 50000 (by omega) (by omega) (by omega)
          rw [Nat.mul_one] at h
          exact h
        intro m
        induction m with
        | zero =>
          intro i fuel h3 h4 h5
          obtain ⟨g, rfl⟩ : ∃ g, fuel = g + 1 := ⟨fuel - 1, by omega⟩
          have : i = t := by omega
          subst this
          show fX12_rhythm_b36 50000 (fX12_rhythm_h23 50000 f) (fX12_rhythm_h36 50000 (fX12_rhythm_h23 50000 f) g) x1 _ (nI k) _ S1 = _
          unfold fX12_rhythm_b36
          rw [bnd_t m_isOf, hb]
          show fX12_rhythm_b44 50000 (fX12_rhythm_h23 50000 f) (fX12_rhythm_h36 50000 (fX12_rhythm_h23 50000 f) g) x1 _ (nI k) _ S1 = _
          unfold fX12_rhythm_b44
          rw [chk_t (inb_t (by omega) (by decide)), nI_clamp (by omega), e7, chk_t (nz_t (by omega) (by omega)), pk_rem (by omega) (by omega) (by omega), t3, if_pos (show nI 0 = 0 from rfl)]
          unfold fX12_rhythm_b63
          rw [nI_1]
        | succ m ih =>
          intro i fuel h3 h4 h5
          obtain ⟨g, rfl⟩ : ∃ g, fuel = g + 1 := ⟨fuel - 1, by omega⟩
          have hai : rhN Z x1 k * i ≤ rhN Z x1 k * t := Nat.mul_le_mul_left _ (by omega)
          have hr : rhN Z x1 k * i % dpZ Z k < dpZ Z k := Nat.mod_lt _ (by omega)
          have hne := t4 i h4 (by omega)
          show fX12_rhythm_b36 50000 (fX12_rhythm_h23 50000 f) (fX12_rhythm_h36 50000 (fX12_rhythm_h23 50000 f) g) x1 _ (nI k) _ S1 = _
          unfold fX12_rhythm_b36
          rw [bnd_t m_isOf, hb]
          show fX12_rhythm_b44 50000 (fX12_rhythm_h23 50000 f) (fX12_rhythm_h36 50000 (fX12_rhythm_h23 50000 f) g) x1 _ (nI k) _ S1 = _
          unfold fX12_rhythm_b44
          rw [chk_t (inb_t (by omega) (by decide)), nI_clamp (by omega), e7, chk_t (nz_t (by omega) (by omega)), pk_rem (by omega) (by omega) (by omega), if_neg (nI_ne0 (by omega) (by omega))]
          unfold fX12_rhythm_b55
          rw [nI_add, show rhN Z x1 k * i + rhN Z x1 k = rhN Z x1 k * (i + 1) from (Nat.mul_succ _ i).symm]
          exact ih (i + 1) g (by omega) (by omega) (by omega)
end

/-! part 66.atogether -/
section
/-! together -/
abbrev cmN (c d n : Nat) : Prop := (n - 1 + c) % d = 0
theorem cm_add {c d n t : Nat} (h1 : 1 ≤ n) : cmN c d (n + t * d) ↔ cmN c d n := by
  unfold cmN
  rw [show n + t * d - 1 + c = n - 1 + c + t * d by omega, Nat.add_mul_mod_self_right]
theorem tg_none {k L c d : Nat} {P : Nat → Prop} (k1 : 1 ≤ k) (hd : 1 ≤ d) (hP : ∀ n, 1 ≤ n → (P n ↔ ∃ m, n = k + m * L)) (h : ∀ i, i < d → ¬ cmN c d (k + i * L)) : ∀ n, 1 ≤ n → ¬ (P n ∧ cmN c d n) := by
  rintro n n1 ⟨a, b⟩
  obtain ⟨m, rfl⟩ := (hP n n1).mp a
  refine h (m % d) (Nat.mod_lt _ (by omega)) ?_
  have e : k + m * L = k + m % d * L + (m / d * L) * d := by
    have h0 : m = d * (m / d) + m % d := (Nat.div_add_mod m d).symm
    have h1 : m * L = m / d * L * d + m % d * L := by
      calc m * L = (d * (m / d) + m % d) * L := by rw [← h0]
        _ = d * (m / d) * L + m % d * L := Nat.add_mul _ _ _
        _ = m / d * L * d + m % d * L := by rw [Nat.mul_assoc, Nat.mul_comm d]
    omega
  rw [e] at b
  exact (cm_add (by omega)).mp b
theorem tg_some {k L c d i0 : Nat} {P : Nat → Prop} (k1 : 1 ≤ k) (kL : k ≤ L) (hd : 1 ≤ d) (hP : ∀ n, 1 ≤ n → (P n ↔ ∃ m, n = k + m * L)) (h0 : cmN c d (k + i0 * L)) (h : ∀ i, i < i0 → ¬ cmN c d (k + i * L)) : k + i0 * L ≤ Nat.lcm L d ∧ ∀ n, 1 ≤ n → (P n ∧ cmN c d n ↔ ∃ m, n = k + i0 * L + m * Nat.lcm L d) := by
  obtain ⟨a, ha⟩ := Nat.dvd_lcm_left L d
  obtain ⟨b, hb⟩ := Nat.dvd_lcm_right L d
  have lp : 0 < Nat.lcm L d := Nat.lcm_pos (by omega) (by omega)
  have a1 : 1 ≤ a := by
    rcases Nat.eq_zero_or_pos a with q | q
    · rw [q, Nat.mul_zero] at ha; omega
    · exact q
  refine ⟨?_, fun n n1 => ⟨?_, ?_⟩⟩
  · refine Nat.le_of_not_lt (fun q => ?_)
    have hi : a ≤ i0 := by
      refine Nat.le_of_not_lt (fun q2 => ?_)
      have h2 : (i0 + 1) * L ≤ a * L := Nat.mul_le_mul_right L (by omega)
      rw [Nat.succ_mul] at h2
      rw [ha, Nat.mul_comm L a] at q
      omega
    refine h (i0 - a) (by omega) ?_
    have e : k + i0 * L = k + (i0 - a) * L + b * d := by
      have h3 : i0 * L = (i0 - a) * L + a * L := by rw [← Nat.add_mul, show i0 - a + a = i0 by omega]
      have h4 : a * L = b * d := by rw [Nat.mul_comm a L, ← ha, hb, Nat.mul_comm d b]
      omega
    rw [e] at h0
    exact (cm_add (by omega)).mp h0
  · rintro ⟨p, q⟩
    obtain ⟨m, rfl⟩ := (hP n n1).mp p
    have hm : i0 ≤ m := Nat.le_of_not_lt (fun q2 => h m q2 q)
    have e1 : k + m * L = k + i0 * L + (m - i0) * L := by
      have h3 : m * L = (m - i0) * L + i0 * L := by rw [← Nat.add_mul, show m - i0 + i0 = m by omega]
      omega
    have dd : d ∣ (m - i0) * L := by
      unfold cmN at q h0
      have d1 := Nat.dvd_of_mod_eq_zero q
      have d2 := Nat.dvd_of_mod_eq_zero h0
      have d3 := Nat.dvd_sub d1 d2
      rw [show k + m * L - 1 + c - (k + i0 * L - 1 + c) = (m - i0) * L by omega] at d3
      exact d3
    obtain ⟨t, ht⟩ := Nat.lcm_dvd (Nat.dvd_mul_left L (m - i0)) dd
    exact ⟨t, by rw [e1, ht, Nat.mul_comm (Nat.lcm L d) t]⟩
  · rintro ⟨m, rfl⟩
    refine ⟨(hP _ n1).mpr ⟨i0 + m * a, ?_⟩, ?_⟩
    · rw [Nat.add_mul, Nat.mul_assoc, Nat.mul_comm a L, ← ha]
      omega
    · rw [hb, Nat.mul_comm d b, ← Nat.mul_assoc]
      exact (cm_add (by omega)).mpr h0
theorem cm_S {h p d n : Nat} {ph dr : Int32} (hp : ph = nI p) (hd : dr = nI d) (d1 : 1 ≤ d) (d2 : d < 2 ^ 31) (n1 : 1 ≤ n) (hb : h + n + p < 2 ^ 31) : cmS ph dr (nI (h + n - 1)) = decide (cmN (h + p) d n) := by
  unfold cmS cmN
  rw [hp, hd, nI_add, pk_rem (by omega) (by omega) d2, show h + n - 1 + p = n - 1 + (h + p) by omega]
  have hr : (n - 1 + (h + p)) % d < d := Nat.mod_lt _ (by omega)
  by_cases hz : (n - 1 + (h + p)) % d = 0
  · rw [hz, decide_eq_true (show nI 0 = 0 from rfl), decide_eq_true rfl]
  · rw [decide_eq_false (nI_ne0 (by omega) (by omega)), decide_eq_false hz]
/-- what all told GROTTOES below j do in HOUR n from now -/
def solZ (Z : gS) (h : Nat) (so : Int32) (j n : Nat) : Prop := ∀ k, k < j → bt so (nI k) = true → cmN (h + phZ Z k) (dpZ Z k) n
theorem solZ_s {Z : gS} {h : Nat} {so : Int32} {j n : Nat} : solZ Z h so (j + 1) n ↔ solZ Z h so j n ∧ (bt so (nI j) = true → cmN (h + phZ Z j) (dpZ Z j) n) := by
  refine ⟨fun q => ⟨fun k hk => q k (by omega), q j (by omega)⟩, fun q k hk => ?_⟩
  by_cases hh : k = j
  · rw [hh]; exact q.2
  · exact q.1 k (by omega)
section
variable {Z SX : gS} {h : Nat} {so : Int32}
theorem x_nextOf {j k L : Nat} (Zk : tOK Z) (hx : tXz (xtw SX) Z SX) (hh : SX 21 0 = nI h) (h9 : h ≤ 999) (hj : j < tn0 Z) (k1 : 1 ≤ k) (k2 : k ≤ 27720) (L2 : L ≤ 27720) : (fX11_nextOf 50000 (nI j) (nI k) (nI L) SX = some (-1, SX) ∧ ∀ i, i < dpZ Z j → ¬ cmN (h + phZ Z j) (dpZ Z j) (k + i * L)) ∨ ∃ i0, i0 < dpZ Z j ∧ fX11_nextOf 50000 (nI j) (nI k) (nI L) SX = some (nI (k + i0 * L), SX) ∧ cmN (h + phZ Z j) (dpZ Z j) (k + i0 * L) ∧ ∀ i, i < i0 → ¬ cmN (h + phZ Z j) (dpZ Z j) (k + i * L) := by
  have z8 := Zk.1.2
  obtain ⟨d1, d2, d3, d4, d5⟩ := dp_ok Zk hj
  have hT1 : SX (xtw SX + 1) j = nI (dpZ Z j) := (hx 1 j (by omega) (by omega)).trans d1
  have h00 : SX (xtw SX) 0 = nI (tn0 Z) := (hx 0 0 (by omega) (by omega)).trans Zk.1.1
  suffices Lp : ∀ (m i fuel : Nat), i + m = dpZ Z j → m < fuel → (∀ t, t < i → ¬ cmN (h + phZ Z j) (dpZ Z j) (k + t * L)) → (fX11_nextOf_h3 50000 fuel (nI j) (nI k) (nI L) (nI i) SX = some (-1, SX) ∧ ∀ i, i < dpZ Z j → ¬ cmN (h + phZ Z j) (dpZ Z j) (k + i * L)) ∨ ∃ i0, i0 < dpZ Z j ∧ fX11_nextOf_h3 50000 fuel (nI j) (nI k) (nI L) (nI i) SX = some (nI (k + i0 * L), SX) ∧ cmN (h + phZ Z j) (dpZ Z j) (k + i0 * L) ∧ ∀ i, i < i0 → ¬ cmN (h + phZ Z j) (dpZ Z j) (k + i * L) from Lp (dpZ Z j) 0 50000 (by omega) (by omega) (fun t ht => by omega)
  intro m
  induction m with
  | zero =>
    intro i fuel h1 h2 h3
    obtain ⟨f, rfl⟩ : ∃ f, fuel = f + 1 := ⟨fuel - 1, by omega⟩
    have : i = dpZ Z j := by omega
    refine Or.inl ⟨?_, fun t ht => h3 t (by omega)⟩
    show fX11_nextOf_b3 50000 _ (nI j) (nI k) (nI L) (nI i) SX = _
    unfold fX11_nextOf_b3
    dsimp only [lt]
    rw [chk_t (inb_t (by omega) (by decide)), nI_clamp (by omega), hT1, if_pos (nI_le (by omega) (by omega))]
    rfl
  | succ m ih =>
    intro i fuel h1 h2 h3
    obtain ⟨f, rfl⟩ : ∃ f, fuel = f + 1 := ⟨fuel - 1, by omega⟩
    have hiL : i * L ≤ 12 * 27720 := Nat.mul_le_mul (by omega) L2
    have hF : fX11_nextOf_h3 50000 (f + 1) (nI j) (nI k) (nI L) (nI i) SX = if iv (decide (cmN (h + phZ Z j) (dpZ Z j) (k + i * L))) = 0 then fX11_nextOf_b54 50000 (fX11_nextOf_h3 50000 f) (nI j) (nI k) (nI L) (nI i) SX else fX11_nextOf_b51 50000 (nI (k + i * L)) SX := by
      show fX11_nextOf_b3 50000 (fX11_nextOf_h3 50000 f) (nI j) (nI k) (nI L) (nI i) SX = _
      unfold fX11_nextOf_b3
      dsimp only [lt]
      rw [chk_t (inb_t (by omega) (by decide)), nI_clamp (by omega), hT1, if_neg (nI_ge (by omega) (by omega))]
      unfold fX11_nextOf_b17
      dsimp only [lt]
      rw [hh, pk_mul, nI_add, ahead_ix (by omega), bnd_t (x_comesRound h00 z8 hj hT1 d2 d3), cm_S (p := phZ Z j) (d := dpZ Z j) ((hx 2 j (by omega) (by omega)).trans d4) hT1 d2 (by omega) (by omega) (by omega)]
    by_cases hc : cmN (h + phZ Z j) (dpZ Z j) (k + i * L)
    · refine Or.inr ⟨i, by omega, ?_, hc, h3⟩
      rw [hF, decide_eq_true hc]
      rfl
    · rcases ih (i + 1) f (by omega) (by omega) (fun t ht => by
        by_cases ht2 : t = i
        · rw [ht2]; exact hc
        · exact h3 t (by omega)) with ⟨a, b⟩ | ⟨i0, a, b, c⟩
      · refine Or.inl ⟨?_, b⟩
        rw [hF, decide_eq_false hc]
        show fX11_nextOf_b54 50000 (fX11_nextOf_h3 50000 f) (nI j) (nI k) (nI L) (nI i) SX = _
        unfold fX11_nextOf_b54
        rw [nI_1]
        exact a
      · refine Or.inr ⟨i0, a, ?_, c⟩
        rw [hF, decide_eq_false hc]
        show fX11_nextOf_b54 50000 (fX11_nextOf_h3 50000 f) (nI j) (nI k) (nI L) (nI i) SX = _
        unfold fX11_nextOf_b54
        rw [nI_1]
        exact b
def ansT (P : Nat → Prop) (v : Int32) : Prop := (∃ n, 1 ≤ n ∧ n ≤ 27720 ∧ P n ∧ (∀ m, 1 ≤ m → m < n → ¬ P m) ∧ v = nI n) ∨ ((∀ n, 1 ≤ n → ¬ P n) ∧ v = -1)
theorem ansT.u {P : Nat → Prop} : ∀ v v', ansT P v → ansT P v' → v = v' := by
  rintro v v' (⟨k, a1, -, a2, a3, a4⟩ | ⟨a1, a2⟩) (⟨k', b1, -, b2, b3, b4⟩ | ⟨b1, b2⟩)
  · have : k = k' := by
      rcases Nat.lt_trichotomy k k' with h | h | h
      · exact absurd a2 (b3 k a1 h)
      · exact h
      · exact absurd b2 (a3 k' b1 h)
    rw [a4, b4, this]
  · exact absurd a2 (b1 k a1)
  · exact absurd b2 (a1 k' b1)
  · rw [a2, b2]
theorem x_together_h (Zk : tOK Z) (hx : tXz (xtw SX) Z SX) (hh : SX 21 0 = nI h) (h9 : h ≤ 999) : Gv (fX11_together_h12 50000 50000 so 1 1 0 SX) (fun r => r.1 = 0 ∧ ansT (solZ Z h so (tn0 Z)) r.2.1 ∧ xSame SX r.2.2) := by
  have z8 := Zk.1.2
  have x0 : SX (xtw SX) 0 = nI (tn0 Z) := (hx 0 0 (by omega) (by omega)).trans Zk.1.1
  refine loopG (A := Nat) (fun f j k => fX11_together_h12 50000 f so (nI k) (nI (rhN Z so j)) (nI j) SX) (fun j k => 1 ≤ k ∧ k ≤ rhN Z so j ∧ ∀ n, 1 ≤ n → (solZ Z h so j n ↔ ∃ m, n = k + m * rhN Z so j)) _ (tn0 Z) ?_ ?_ (tn0 Z) 0 1 50000 (by omega) ⟨by omega, Nat.le_refl _, fun n n1 => ⟨fun _ => ⟨n - 1, by show n = 1 + (n - 1) * 1; omega⟩, fun _ k hk => by omega⟩⟩ (by omega)
  · rintro f k ⟨i1, i2, i3⟩
    obtain ⟨r1, r2⟩ := rh_ok (so := so) Zk (tn0 Z) (Nat.le_refl _)
    have hl := Nat.le_of_dvd (by decide) r2
    refine ⟨(0, nI k, SX), ?_, rfl, Or.inl ⟨k, i1, by omega, (i3 k i1).mpr ⟨0, by omega⟩, fun m m1 m2 q => ?_, rfl⟩, xSame.rf⟩
    · show fX11_together_b12 50000 _ so (nI k) _ (nI (tn0 Z)) SX = _
      unfold fX11_together_b12
      dsimp only [lt]
      rw [x0, if_pos (nI_le (Nat.le_refl _) (by omega))]
      rfl
    · obtain ⟨t, ht⟩ := (i3 m m1).mp q
      omega
  · rintro f j k hj ⟨i1, i2, i3⟩
    obtain ⟨r1, r2⟩ := rh_ok (so := so) Zk j (by omega)
    have hl := Nat.le_of_dvd (by decide) r2
    obtain ⟨d1, d2, d3, d4, d5⟩ := dp_ok Zk hj
    have hF : fX11_together_h12 50000 (f + 1) so (nI k) (nI (rhN Z so j)) (nI j) SX = if iv (bt so (nI j)) = 0 then fX11_together_b64 50000 (fX11_together_h12 50000 f) so (nI k) (nI (rhN Z so j)) (nI j) SX else fX11_together_b33 50000 (fX11_together_h12 50000 f) so (nI k) (nI (rhN Z so j)) (nI j) SX := by
      show fX11_together_b12 50000 (fX11_together_h12 50000 f) so (nI k) _ (nI j) SX = _
      unfold fX11_together_b12
      dsimp only [lt]
      rw [x0, if_neg (nI_ge hj (by omega))]
      unfold fX11_together_b24
      rw [bnd_t x_isOneOf]
    cases hb : bt so (nI j) with
    | false =>
      have eR : rhN Z so (j + 1) = rhN Z so j := if_neg (by rw [hb]; decide)
      refine Or.inr ⟨k, ⟨i1, by rw [eR]; exact i2, fun n n1 => ?_⟩, ?_⟩
      · rw [eR, solZ_s, ← i3 n n1]
        exact ⟨fun q => q.1, fun q => ⟨q, fun z => by rw [hb] at z; cases z⟩⟩
      · show fX11_together_h12 50000 (f + 1) so (nI k) (nI (rhN Z so j)) (nI j) SX = _
        rw [hF, hb, eR]
        show fX11_together_b64 50000 (fX11_together_h12 50000 f) so (nI k) (nI (rhN Z so j)) (nI j) SX = _
        unfold fX11_together_b64
        rw [nI_1]
    | true =>
      have eR : rhN Z so (j + 1) = Nat.lcm (rhN Z so j) (dpZ Z j) := if_pos hb
      have hF2 : fX11_together_h12 50000 (f + 1) so (nI k) (nI (rhN Z so j)) (nI j) SX = fX11_together_b33 50000 (fX11_together_h12 50000 f) so (nI k) (nI (rhN Z so j)) (nI j) SX := by
        rw [hF, hb]
        rfl
      rcases x_nextOf (j := j) (k := k) (L := rhN Z so j) Zk hx hh h9 hj i1 (by omega) hl with ⟨a, b⟩ | ⟨i0, a, b, c, e⟩
      · refine Or.inl ⟨(0, -1, SX), ?_, rfl, Or.inr ⟨fun n n1 q => ?_, rfl⟩, xSame.rf⟩
        · show fX11_together_h12 50000 (f + 1) so (nI k) (nI (rhN Z so j)) (nI j) SX = _
          rw [hF2]
          unfold fX11_together_b33
          rw [bnd_t a]
          rfl
        · refine tg_none (P := solZ Z h so j) i1 d2 i3 b n n1 ⟨fun t ht => q t (by omega), q j hj hb⟩
      · obtain ⟨t1, t2⟩ := tg_some (P := solZ Z h so j) i1 i2 d2 i3 c e
        refine Or.inr ⟨k + i0 * rhN Z so j, ⟨by omega, by rw [eR]; exact t1, fun n n1 => ?_⟩, ?_⟩
        · rw [eR, solZ_s, ← t2 n n1]
          exact ⟨fun q => ⟨q.1, q.2 hb⟩, fun q => ⟨q.1, fun _ => q.2⟩⟩
        · show fX11_together_h12 50000 (f + 1) so (nI k) (nI (rhN Z so j)) (nI j) SX = _
          rw [hF2]
          unfold fX11_together_b33
          have hiL : i0 * rhN Z so j ≤ 12 * 27720 := Nat.mul_le_mul (by omega) hl
          rw [bnd_t b]
          show (if nI (k + i0 * rhN Z so j) = -1 then _ else _) = _
          rw [if_neg (nI_nem (by omega))]
          unfold fX11_together_b49
          dsimp only [lt]
          rw [chk_t (inb_t (by omega) (by decide)), nI_clamp (by omega), hx 1 j (by omega) (by omega), d1, bnd_t (x_leastCommon r1 r2 d2 d3 (by decide)), eR]
          unfold fX11_together_b64
          rw [nI_1]
theorem solZ_dec {j n : Nat} : solZ Z h so j n ∨ ¬ solZ Z h so j n := Classical.em _
theorem m_together_h {S1 : gS} (Zk : tOK Z) (hM : tM Z S1) (hh : S1 99 37 = nI h) (h9 : h ≤ 999) (c0 : S1 99 4 = 0) (fin : ∀ n, 1 ≤ n → solZ Z h so (tn0 Z) n → ∃ m, 1 ≤ m ∧ m ≤ 27720 ∧ solZ Z h so (tn0 Z) m) : Gv (fX12_together_h21 50000 50000 so 1 S1) (fun r => ansT (solZ Z h so (tn0 Z)) r.1 ∧ mSame S1 r.2 ∧ r.2 99 4 = 0) := by
  have z8 := Zk.1.2
  refine loopG (A := Unit) (fun f n _ => fX12_together_h21 50000 f so (nI (n + 1)) S1) (fun n _ => ∀ m, 1 ≤ m → m ≤ n → ¬ solZ Z h so (tn0 Z) m) _ 30000 ?_ ?_ 30000 0 () 50000 (by omega) (fun m m1 m2 => by omega) (by omega)
  · intro f a i1
    refine ⟨(-1, S1), ?_, Or.inr ⟨fun n n1 q => ?_, rfl⟩, mSame.rf, c0⟩
    · show fX12_together_b21 50000 _ so (nI 30001) S1 = _
      unfold fX12_together_b21
      rw [if_pos (by decide)]
      rfl
    · obtain ⟨m, m1, m2, m3⟩ := fin n n1 q
      exact i1 m m1 (by omega) m3
  · intro f n a hn i1
    have inner : ∀ (r : Int32 → Int32 → gS → Option (Int32 × gS)), (solZ Z h so (tn0 Z) (n + 1) → fX12_together_h33 50000 r 50000 so (nI (n + 1)) 1 0 S1 = fX12_together_b86 50000 r so (nI (n + 1)) 1 S1) ∧ (¬ solZ Z h so (tn0 Z) (n + 1) → fX12_together_h33 50000 r 50000 so (nI (n + 1)) 1 0 S1 = fX12_together_b86 50000 r so (nI (n + 1)) 0 S1) := by
      intro r
      suffices L : ∀ (m j fuel : Nat), j + m = tn0 Z → m + 1 < fuel → solZ Z h so j (n + 1) → (solZ Z h so (tn0 Z) (n + 1) → fX12_together_h33 50000 r fuel so (nI (n + 1)) 1 (nI j) S1 = fX12_together_b86 50000 r so (nI (n + 1)) 1 S1) ∧ (¬ solZ Z h so (tn0 Z) (n + 1) → fX12_together_h33 50000 r fuel so (nI (n + 1)) 1 (nI j) S1 = fX12_together_b86 50000 r so (nI (n + 1)) 0 S1) from L (tn0 Z) 0 50000 (by omega) (by omega) (fun k hk => by omega)
      intro m
      induction m with
      | zero =>
        intro j fuel h1 h2 h3
        obtain ⟨g, rfl⟩ : ∃ g, fuel = g + 1 := ⟨fuel - 1, by omega⟩
        have : j = tn0 Z := by omega
        subst this
        refine ⟨fun _ => ?_, fun q => absurd h3 q⟩
        show fX12_together_b33 50000 r _ so (nI (n + 1)) 1 (nI (tn0 Z)) S1 = _
        unfold fX12_together_b33
        rw [hM.1, if_pos (nI_le (Nat.le_refl _) (by omega))]
      | succ m ih =>
        intro j fuel h1 h2 h3
        obtain ⟨g, rfl⟩ : ∃ g, fuel = g + 1 := ⟨fuel - 1, by omega⟩
        have hj : j < tn0 Z := by omega
        obtain ⟨d1, d2, d3, d4, d5⟩ := dp_ok Zk hj
        obtain ⟨m1, m2, -, -⟩ := hM.2.2.2.2.2.2.2.1 j hj
        have hF : fX12_together_h33 50000 r (g + 1) so (nI (n + 1)) 1 (nI j) S1 = if iv (bt so (nI j)) = 0 then fX12_together_b74 50000 r (fX12_together_h33 50000 r g) so (nI (n + 1)) (nI j) S1 else fX12_together_b57 50000 r (fX12_together_h33 50000 r g) so (nI (n + 1)) (nI j) S1 := by
          show fX12_together_b33 50000 r (fX12_together_h33 50000 r g) so (nI (n + 1)) 1 (nI j) S1 = _
          unfold fX12_together_b33
          rw [hM.1, if_neg (nI_ge hj (by omega))]
          unfold fX12_together_b44
          rw [if_neg (by decide)]
          unfold fX12_together_b48
          rw [bnd_t m_isOf]
        have go : solZ Z h so (j + 1) (n + 1) → fX12_together_h33 50000 r (g + 1) so (nI (n + 1)) 1 (nI j) S1 = fX12_together_h33 50000 r g so (nI (n + 1)) 1 (nI (j + 1)) S1 → (solZ Z h so (tn0 Z) (n + 1) → fX12_together_h33 50000 r (g + 1) so (nI (n + 1)) 1 (nI j) S1 = fX12_together_b86 50000 r so (nI (n + 1)) 1 S1) ∧ (¬ solZ Z h so (tn0 Z) (n + 1) → fX12_together_h33 50000 r (g + 1) so (nI (n + 1)) 1 (nI j) S1 = fX12_together_b86 50000 r so (nI (n + 1)) 0 S1) := by
          intro q1 q2
          rw [q2]
          exact ih (j + 1) g (by omega) (by omega) q1
        cases hb : bt so (nI j) with
        | false =>
          refine go (solZ_s.mpr ⟨h3, fun z => by rw [hb] at z; cases z⟩) ?_
          rw [hF, hb]
          show fX12_together_b74 50000 r (fX12_together_h33 50000 r g) so (nI (n + 1)) (nI j) S1 = _
          unfold fX12_together_b74 fX12_together_b79
          rw [nI_1]
        | true =>
          have hF2 : fX12_together_h33 50000 r (g + 1) so (nI (n + 1)) 1 (nI j) S1 = if iv (decide (cmN (h + phZ Z j) (dpZ Z j) (n + 1))) = 0 then fX12_together_b78 50000 r (fX12_together_h33 50000 r g) so (nI (n + 1)) (nI j) S1 else fX12_together_b74 50000 r (fX12_together_h33 50000 r g) so (nI (n + 1)) (nI j) S1 := by
            rw [hF, hb]
            show fX12_together_b57 50000 r (fX12_together_h33 50000 r g) so (nI (n + 1)) (nI j) S1 = _
            unfold fX12_together_b57
            rw [hh, ahead_ix (by omega), bnd_t (m_comesAt z8 hj (m1.trans d1) d2 d3), cm_S (p := phZ Z j) (d := dpZ Z j) (m2.trans d4) (m1.trans d1) d2 (by omega) (by omega) (by omega)]
          by_cases hc : cmN (h + phZ Z j) (dpZ Z j) (n + 1)
          · refine go (solZ_s.mpr ⟨h3, fun _ => hc⟩) ?_
            rw [hF2, decide_eq_true hc]
            show fX12_together_b74 50000 r (fX12_together_h33 50000 r g) so (nI (n + 1)) (nI j) S1 = _
            unfold fX12_together_b74 fX12_together_b79
            rw [nI_1]
          · refine ⟨fun q => absurd (q j hj hb) hc, fun _ => ?_⟩
            obtain ⟨g', rfl⟩ : ∃ g', g = g' + 1 := ⟨g - 1, by omega⟩
            rw [hF2, decide_eq_false hc]
            show fX12_together_b33 50000 r (fX12_together_h33 50000 r g') so (nI (n + 1)) 0 (nI j + 1) S1 = _
            rw [nI_1]
            unfold fX12_together_b33
            rw [hM.1]
            by_cases hl : nI (tn0 Z) ≤ nI (j + 1)
            · rw [if_pos hl]
            · rw [if_neg hl]
              unfold fX12_together_b44
              rw [if_pos rfl]
    have hF : fX12_together_h21 50000 (f + 1) so (nI (n + 1)) S1 = fX12_together_h33 50000 (fX12_together_h21 50000 f) 50000 so (nI (n + 1)) 1 0 S1 := by
      show fX12_together_b21 50000 (fX12_together_h21 50000 f) so (nI (n + 1)) S1 = _
      unfold fX12_together_b21
      rw [if_neg (show ¬ (30000 : Int32) < nI (n + 1) from nI_nlt (a := 30000) (by omega) (by decide))]
      rfl
    obtain ⟨in1, in2⟩ := inner (fX12_together_h21 50000 f)
    rcases solZ_dec (Z := Z) (h := h) (so := so) (j := tn0 Z) (n := n + 1) with q | q
    · refine Or.inl ⟨(nI (n + 1), S1), ?_, Or.inl ⟨n + 1, by omega, ?_, q, fun m m1 m2 => i1 m m1 (by omega), rfl⟩, mSame.rf, c0⟩
      · show fX12_together_h21 50000 (f + 1) so (nI (n + 1)) S1 = _
        rw [hF, in1 q]
        rfl
      · obtain ⟨m, m1, m2, m3⟩ := fin (n + 1) (by omega) q
        refine Nat.le_of_not_lt (fun z => i1 m m1 (by omega) m3)
    · refine Or.inr ⟨(), fun m m1 m2 => ?_, ?_⟩
      · by_cases hm : m = n + 1
        · rw [hm]; exact q
        · exact i1 m m1 (by omega)
      · show fX12_together_h21 50000 (f + 1) so (nI (n + 1)) S1 = _
        rw [hF, in2 q]
        show fX12_together_b92 50000 (fX12_together_h21 50000 f) so (nI (n + 1)) S1 = _
        unfold fX12_together_b92
        rw [nI_1]
end
theorem st_together : Lw_together JJ := by
  intro SX SM x1 hJ
  obtain ⟨S1, Z, h, qs, hS1, c0, hJ1, Zk, h9, C, M, K, w41, x0, x5⟩ := pre hJ
  have z8 := Zk.1.2
  have hF : fX12_together 50000 x1 SM = if iv (inb x1 (2 ^ tn0 Z)) = 0 then fX12_together_b13 50000 S1 else fX12_together_b19 50000 x1 S1 := by
    unfold fX12_together fX12_together_b0
    dsimp only [lt]
    rw [← hS1, bnd_t (m_isSome M.1.1 z8)]
  cases h1 : inb x1 (2 ^ tn0 Z) with
  | false =>
    refine stFl 50000 50000 2 hJ two_ne (Or.inr rfl) ?_ ?_
    · show fX11_together_b0 50000 x1 SX = _
      unfold fX11_together_b0
      rw [bnx_x (x_needGrottoes x0 z8) (by rw [h1]; exact two_ne), h1]
      rfl
    · show fX12_together 50000 x1 SM = _
      rw [hF, h1, ← hS1]
      rfl
  | true =>
  have hX := x_together_h (so := x1) Zk C.1 C.2.1 h9
  have fin : ∀ n, 1 ≤ n → solZ Z h x1 (tn0 Z) n → ∃ m, 1 ≤ m ∧ m ≤ 27720 ∧ solZ Z h x1 (tn0 Z) m := by
    intro n n1 q
    obtain ⟨r, -, -, hr, -⟩ := hX
    rcases hr with ⟨k, a1, a2, a3, -⟩ | ⟨a1, -⟩
    · exact ⟨k, a1, a2, a3⟩
    · exact absurd q (a1 n n1)
  refine stSr 50000 50000 (ansT (solZ Z h x1 (tn0 Z))) ansT.u hJ rfl (Or.inl rfl) ?_ ?_
  · have e : fX11_together 50000 x1 SX = fX11_together_h12 50000 50000 x1 1 1 0 SX := by
      show fX11_together_b0 50000 x1 SX = _
      unfold fX11_together_b0
      rw [bnx_t (x_needGrottoes x0 z8) (by rw [h1]; rfl)]
    show Gv (fX11_together 50000 x1 SX) _
    rw [e]
    exact hX
  · have e : fX12_together 50000 x1 SM = fX12_together_h21 50000 50000 x1 1 S1 := by
      rw [hF, h1]
      rfl
    show Gv (fX12_together 50000 x1 SM) _
    rw [e, ← hS1]
    exact m_together_h Zk M.1 M.2.2.1 h9 c0 fin
end
