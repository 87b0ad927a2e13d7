/-! part 83.look -/
section
section
variable {Z S1 S2 : gS} {d : Int32} {h n c : Nat} {qs : Nat → qT} {F : Nat → Bool}
theorem m_look35 {x1 : Int32} (Zk : tOK Z) (K : qsOK Z (Z 5) qs) (h9 : h ≤ 999) (hc : c ≤ 60) (hf : ∀ i, i < c → fI F i < 10 * tn1 Z) (M : mSit Z S2 h d (Z 5) qs) (w41 : S2 99 41 = -1) (h54 : S2 99 54 = nI c) (T : ∀ i, i < c → S2 52 i = nI (fI F i)) : ∃ S0 S', fX12_pack 5000 46 0 S2 = some (0, S0) ∧ fX12_look_h35 5000 5000 x1 0 S0 = fX12_look_b139 5000 x1 S' ∧ mSame S2 S' ∧ S' 99 4 = S2 99 4 ∧ S' 99 54 = nI c ∧ wrM Z d h qs F c S' := by
  have z6 := Zk.2.1.2
  obtain ⟨S3, p1, p2, p3⟩ := q_pk (N := 5000) (S1 := S2) (nd := 46) (Or.inl rfl) (by decide)
  have s3 : mSame S2 S3 := fun i j hij => p2 i j (fun q => by rw [q] at hij; cases hij)
  have M3 := M.on s3
  refine ⟨S3, ?_⟩
  have main : ∀ (m i f : Nat) (S : gS), i + m = c → m < f → oSame m7 S3 S → wrM Z d h qs F i S → ∃ S', fX12_look_h35 5000 f x1 (nI i) S = fX12_look_b139 5000 x1 S' ∧ oSame m7 S3 S' ∧ wrM Z d h qs F c S' := by
    intro m
    induction m with
    | zero =>
      intro i f S hi hf2 s W
      obtain ⟨f, rfl⟩ : ∃ f', f = f' + 1 := ⟨f - 1, by omega⟩
      obtain rfl : i = c := by omega
      refine ⟨S, ?_, s, W⟩
      show fX12_look_b35 5000 _ x1 (nI i) S = _
      unfold fX12_look_b35
      rw [s 99 54 rfl, p2 99 54 (by decide), h54, if_pos (nI_le (Nat.le_refl _) (by omega))]
    | succ m ih =>
      intro i f S hi hf2 s W
      obtain ⟨f, rfl⟩ : ∃ f', f = f' + 1 := ⟨f - 1, by omega⟩
      have hfi := hf i (by omega)
      obtain ⟨v1, v2⟩ := dv10 (fI F i) (by omega)
      have t52 : S 52 i = nI (fI F i) := by
        rw [s 52 i rfl, p2 52 i (by decide)]
        exact T i (by omega)
      have M4 : mSit Z (sU S 18 (fI F i / 10) (nI (fI F i % 10))) h d (upE (Z 5) (fI F i / 10) (nI (fI F i % 10))) qs := (M3.on (m7.same s)).gr
      obtain ⟨S5, a1, a2, a3⟩ := m_look79 (r35 := fX12_look_h35 5000 f) (x1 := x1) (x4 := S 18 (fI F i / 10)) (i := i) (F := F) Zk K.h h9 (by omega) (by omega) M4 (by rw [sU_ne (by decide), s 99 41 rfl, p2 99 41 (by decide)]; exact w41) (fun i' a t b => by rw [sU_ne (by decide)]; exact W i' a t b)
      obtain ⟨S6, hS6⟩ : ∃ z, z = sU S5 18 (fI F i / 10) (S 18 (fI F i / 10)) := ⟨_, rfl⟩
      have b6 : ∀ a b, mHo a b = false → a ≠ 53 → S6 a b = S a b := by
        intro a b q1 q2
        rw [hS6, sU_ap]
        by_cases q : a = 18 ∧ b = fI F i / 10
        · rw [if_pos q, q.1, q.2]
        · rw [if_neg q, a2 a b q1 q2, sU_n q]
      obtain ⟨S7, u1, u2⟩ := p3 S6 (fun j => by rw [b6 46 j rfl (by decide), s 46 j rfl])
      have s7 : oSame m7 S3 S7 := by
        intro a b q
        rw [u2 a b]
        have q' := m7_f.mp q
        by_cases hp : mPk a b = true
        · rw [if_pos hp, p2 a b]
          rw [mPk_t] at hp
          omega
        · rw [if_neg hp, b6 a b ?_ q'.2.2.1]
          · exact s a b q
          · rw [mPk_t] at hp
            cases hh : mHo a b with
            | false => rfl
            | true =>
              exfalso
              unfold mHo at hh
              simp only [Bool.or_eq_true, Bool.and_eq_true, beq_iff_eq, decide_eq_true_iff] at hh
              omega
      have W7 : wrM Z d h qs F (i + 1) S7 := by
        intro i' a t b
        rw [u2, if_neg (fun q => by rw [mPk_t] at q; omega), hS6, sU_ne (by decide)]
        exact a3 i' a t b
      obtain ⟨S', e1, e2, e3⟩ := ih (i + 1) f S7 (by omega) (by omega) s7 W7
      refine ⟨S', ?_, e2, e3⟩
      rw [← e1]
      show fX12_look_b35 5000 (fX12_look_h35 5000 f) x1 (nI i) S = _
      unfold fX12_look_b35
      rw [s 99 54 rfl, p2 99 54 (by decide), h54, if_neg (nI_ge (by omega) (by omega))]
      unfold fX12_look_b43
      dsimp only [lt]
      rw [nI_clamp (n := i) (by omega), t52, v1, v2, chk_t (inb_t (by omega) (by decide)), chk_t (inb_t (by omega) (by decide)), chk_t (inb_t (by omega) (by decide)), chk_t (inb_t (by omega) (by decide)), nI_clamp (n := fI F i / 10) (by omega), a1]
      unfold fX12_look_b116
      dsimp only [lt]
      rw [chk_t (inb_t (by omega) (by decide)), nI_clamp (n := fI F i / 10) (by omega), ← hS6, bnd_t u1]
      dsimp only
      rw [nI_1 i]
  obtain ⟨S', e1, e2, e3⟩ := main c 0 5000 S3 (by omega) (by omega) oSame.rf (fun i' a => absurd a (by omega))
  refine ⟨S', p1, e1, s3.tr (m7.same e2), ?_, ?_, e3⟩
  · rw [e2 99 4 rfl, p2 99 4 (by decide)]
  · rw [e2 99 54 rfl, p2 99 54 (by decide)]; exact h54
end
theorem st_look : Lw_look JJ := by
  intro SX SM x1 hJ
  obtain ⟨S1, Z, h, qs, hS1, c0, hJ1, Zk, h9, C, M, K, w41, x0, x5⟩ := pre hJ
  have z6 := Zk.2.1.2
  obtain ⟨n, wh, wn, sn, hk, X, XM⟩ := jSeen_of hJ1 z6 x5
  have hM0 : fX12_look 5000 x1 SM = if x1 < 0 then fX12_look_b14 5000 S1 else fX12_look_b9 5000 x1 S1 := by
    unfold fX12_look fX12_look_b0
    dsimp only [lt]
    rw [← hS1]
  cases h1 : wth x1 0 1 with
  | false =>
    refine stFl 5000 5000 1 hJ one_ne (Or.inr rfl) (nwF h1) ?_
    show fX12_look 5000 x1 SM = _
    rw [hM0]
    rcases w01F h1 with q | ⟨q1, q2⟩
    · rw [if_pos q, ← hS1]
      rfl
    · rw [if_neg q1, ← hS1]
      unfold fX12_look_b9
      rw [if_neg q2]
      rfl
  | true =>
  obtain ⟨q1, q2, q3⟩ := w01T h1
  obtain ⟨F, hF⟩ : ∃ z, z = fitB Z (SX 21 1) h qs n wh wn sn := ⟨_, rfl⟩
  obtain ⟨X2, a1, a2, a3, a4, a5, a6⟩ := x_weigh hF Zk C K hk X h9
  obtain ⟨c, hc⟩ : ∃ z, z = cntB F (10 * tn1 Z) := ⟨_, rfl⟩
  have c60 : c ≤ 60 := by have := cntB_le (c := F) (10 * tn1 Z); omega
  rw [← hc] at a4 a6
  have hb := x_bestLook Zk c60 a4 a6
  obtain ⟨B, hB⟩ : ∃ z : Int32, z = if c = 0 then -1 else nI (bsN (unN Z (SX 21 1) h qs F c) 20) := ⟨_, rfl⟩
  rw [← hB] at hb
  have hX : fX11_look 5000 x1 SX = if x1 = 0 then fX11_look_b36 5000 B X2 else fX11_look_b38 5000 B X2 := by
    refine (nwT h1).trans ?_
    dsimp only [lt]
    rw [bnd_t a1]
    dsimp only
    rw [bnd_t hb]
  obtain ⟨S2, b1, b2, b3, b4⟩ := m_tellFits hF Zk M K w41 hk XM h9
  rw [← hc] at b3 b4
  obtain ⟨S3, S4, e1, e2, e3, e4, e5, e6⟩ := m_look35 (x1 := x1) (d := SX 21 1) (F := F) Zk K h9 c60 (fun i hi => fI_lt _ (by omega) (by rw [← hc]; exact hi)) (M.on (m6.same b2)) ((b2 99 41 rfl).trans w41) b3 b4
  have hM : fX12_look 5000 x1 SM = fX12_look_b184 5000 x1 B (if c = 0 then 0 else nI (unN Z (SX 21 1) h qs F c (bsN (unN Z (SX 21 1) h qs F c) 20))) S4 := by
    rw [hM0, if_neg q1]
    unfold fX12_look_b9
    rw [if_pos q2]
    unfold fX12_look_b20
    rw [bnd_t b1]
    dsimp only
    rw [bnd_t e1]
    dsimp only
    rw [e2, m_look146 Zk c60 e5 e6, hB]
  have s0 : mSame (sU SM 99 4 0) S4 := by rw [← hS1]; exact (m6.same b2).tr e3
  have s4 : S4 99 4 = 0 := e4.trans ((b2 99 4 rfl).trans c0)
  rcases q3 with rfl | rfl
  · refine stSu 5000 5000 B hJ rfl (Or.inl rfl) ⟨(0, B, X2), hX, rfl, rfl, a2⟩ ⟨(B, S4), hM, rfl, s0, s4⟩
  · refine stSu 5000 5000 (if c = 0 then 0 else nI (unN Z (SX 21 1) h qs F c (bsN (unN Z (SX 21 1) h qs F c) 20))) hJ rfl (Or.inl rfl) ⟨(0, (if c = 0 then 0 else nI (unN Z (SX 21 1) h qs F c (bsN (unN Z (SX 21 1) h qs F c) 20))), X2), ?_, rfl, rfl, a2⟩ ⟨((if c = 0 then 0 else nI (unN Z (SX 21 1) h qs F c (bsN (unN Z (SX 21 1) h qs F c) 20))), S4), hM, rfl, s0, s4⟩
    show fX11_look 5000 1 SX = _
    rw [hX]
    show fX11_look_b38 5000 B X2 = _
    unfold fX11_look_b38
    rw [hB]
    by_cases q : c = 0
    · rw [if_pos q, if_pos q, if_pos rfl]
      rfl
    · obtain ⟨l1, l2⟩ := bsN_le (u := unN Z (SX 21 1) h qs F c) 20
      rw [if_neg q, if_neg q, if_neg (nI_nem (by omega))]
      unfold fX11_look_b47
      rw [bnd_t (x_unlike Zk ⟨l2 (by decide), l1⟩ a6)]
      rfl
end
