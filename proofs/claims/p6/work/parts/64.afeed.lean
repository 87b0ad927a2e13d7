/-! feed -/
noncomputable def byB (x : Int32) (k : Nat) : Int32 := (x >>> (nI (24 - 8 * k) &&& 31)) &&& 255
theorem bb_255 : ∀ i, i < 32 → bb 255 i = decide (i < 8) := by decide +kernel
theorem byte_255 (z : Int32) : (vp_nar .byte (Int32.toInt8 z).toInt32) &&& 255 = z &&& 255 := by
  rw [pk_vb]
  refine bb_ext (fun i hi => ?_)
  rw [bb_and, bb_and, bb_255 i hi]
  by_cases h8 : i < 8
  · rw [decide_eq_true h8, Bool.and_true, Bool.and_true]
    unfold bb
    rw [Int8.toBitVec_toInt32, Int32.toBitVec_toInt8, BitVec.getLsbD_signExtend, if_pos h8, BitVec.getLsbD_signExtend, if_pos hi]
    simp [hi, h8]
  · rw [decide_eq_false h8, Bool.and_false, Bool.and_false]
theorem byB_n (x : Int32) (k : Nat) : ∃ y : Nat, y < 256 ∧ byB x k = nI y := pk_andE (m := 255) _ 8 rfl
theorem x_add {S : gS} {n : Nat} {x : Int32} (hn : S 2 1 = nI n) (h7 : n + 4 ≤ 700) : ∃ S', fX8_add 5000 x S = some (0, S') ∧ S' 2 1 = nI (n + 4) ∧ (∀ i j, ¬ (i = 2 ∧ j = 1) → ¬ (i = 3 ∧ n ≤ j) → S' i j = S i j) ∧ ∀ k, k < 4 → (S' 3 (n + k) &&& 255) = byB x k := by
  have main : Gv (fX8_add_h3 5000 5000 x 24 S) (fun r => r.1 = 0 ∧ r.2 2 1 = nI (n + 4) ∧ (∀ i j, ¬ (i = 2 ∧ j = 1) → ¬ (i = 3 ∧ n ≤ j) → r.2 i j = S i j) ∧ ∀ k, k < 4 → (r.2 3 (n + k) &&& 255) = byB x k) := by
    have sh : ∀ k, k < 4 → (nI (24 - 8 * k) + (-8) : Int32) = (if k = 3 then -8 else nI (24 - 8 * (k + 1))) ∧ ¬ nI (24 - 8 * k) < 0 := by decide +kernel
    refine loopG (A := gS) (fun f k S => fX8_add_h3 5000 f x (if k = 4 then -8 else nI (24 - 8 * k)) S) (fun k S' => S' 2 1 = nI (n + k) ∧ (∀ i j, ¬ (i = 2 ∧ j = 1) → ¬ (i = 3 ∧ n ≤ j) → S' i j = S i j) ∧ ∀ t, t < k → (S' 3 (n + t) &&& 255) = byB x t) _ 4 ?_ ?_ 4 0 S 5000 (by omega) ⟨hn, fun _ _ _ _ => rfl, fun t ht => by omega⟩ (by omega)
    · rintro f S1 ⟨i1, i2, i3⟩
      exact ⟨(0, S1), rfl, rfl, i1, i2, i3⟩
    · rintro f k S1 hk ⟨i1, i2, i3⟩
      refine Or.inr ⟨sU (sU S1 3 (n + k) (vp_nar .byte (Int32.toInt8 (x >>> (nI (24 - 8 * k) &&& 31))).toInt32)) 2 1 (nI (n + (k + 1))), ⟨sU_s, fun i j h1 h2 => by rw [sU_n h1, sU_n (by omega)]; exact i2 i j h1 h2, fun t ht => ?_⟩, ?_⟩
      · rw [sU_n (by omega)]
        by_cases hh : t = k
        · subst hh
          rw [sU_s, byte_255]
          rfl
        · rw [sU_n (by omega)]; exact i3 t (by omega)
      · show fX8_add_b3 5000 (fX8_add_h3 5000 f) x (if k = 4 then -8 else nI (24 - 8 * k)) S1 = fX8_add_h3 5000 f x (if k + 1 = 4 then -8 else nI (24 - 8 * (k + 1))) _
        rw [if_neg (show ¬ k = 4 by omega)]
        unfold fX8_add_b3
        rw [if_neg (sh k hk).2]
        unfold fX8_add_b7
        rw [i1, if_neg (show ¬ (700 : Int32) ≤ nI (n + k) from nI_ge (b := 700) (by omega) (by decide))]
        unfold fX8_add_b19
        dsimp only [lt]
        rw [i1, nI_clamp (by omega), chk_t (inb_t (by omega) (by decide)), sU_n (i := 2) (by omega), i1, nI_1]
        unfold fX8_add_b42
        rw [(sh k hk).1]
        by_cases h3 : k = 3
        · rw [if_pos h3, if_pos (show k + 1 = 4 by omega)]
          rfl
        · rw [if_neg h3, if_neg (show ¬ k + 1 = 4 by omega)]
          rfl
  obtain ⟨⟨v, S'⟩, r1, r2, r3⟩ := main
  dsimp only at r2 r3
  subst r2
  exact ⟨S', r1, r3⟩
noncomputable def wd5 (a b c d e : Int32) (k : Nat) : Int32 := if k < 4 then a else if k < 8 then b else if k < 12 then c else if k < 16 then d else e
theorem m_feed_h {S : gS} {n : Nat} {a b c d e : Int32} (hn : S 99 20 = nI n) (h7 : n + 20 ≤ 700) : ∃ S', fX12_feed_h23 5000 5000 a b c d e 0 S = some (nI (n + 20), S') ∧ S' 99 20 = nI (n + 20) ∧ (∀ i j, ¬ (i = 99 ∧ j = 20) → ¬ (i = 19 ∧ n ≤ j) → S' i j = S i j) ∧ ∀ k, k < 20 → S' 19 (n + k) = byB (wd5 a b c d e k) (k % 4) := by
  have main : Gv (fX12_feed_h23 5000 5000 a b c d e 0 S) (fun r => r.1 = nI (n + 20) ∧ r.2 99 20 = nI (n + 20) ∧ (∀ i j, ¬ (i = 99 ∧ j = 20) → ¬ (i = 19 ∧ n ≤ j) → r.2 i j = S i j) ∧ ∀ k, k < 20 → r.2 19 (n + k) = byB (wd5 a b c d e k) (k % 4)) := by
    refine loopG (A := gS) (fun f k S => fX12_feed_h23 5000 f a b c d e (nI k) S) (fun k S' => S' 99 20 = nI (n + k) ∧ (∀ i j, ¬ (i = 99 ∧ j = 20) → ¬ (i = 19 ∧ n ≤ j) → S' i j = S i j) ∧ ∀ t, t < k → S' 19 (n + t) = byB (wd5 a b c d e t) (t % 4)) _ 20 ?_ ?_ 20 0 S 5000 (by omega) ⟨hn, fun _ _ _ _ => rfl, fun t ht => by omega⟩ (by omega)
    · rintro f S1 ⟨i1, i2, i3⟩
      exact ⟨(S1 99 20, S1), rfl, i1, i1, i2, i3⟩
    · rintro f k S1 hk ⟨i1, i2, i3⟩
      refine Or.inr ⟨sU (sU S1 19 (n + k) (byB (wd5 a b c d e k) (k % 4))) 99 20 (nI (n + (k + 1))), ⟨sU_s, fun i j h1 h2 => by rw [sU_n h1, sU_n (by omega)]; exact i2 i j h1 h2, fun t ht => ?_⟩, ?_⟩
      · rw [sU_n (by omega)]
        by_cases hh : t = k
        · subst hh
          rw [sU_s]
        · rw [sU_n (by omega)]; exact i3 t (by omega)
      · have b76 : ∀ w, w = wd5 a b c d e k → fX12_feed_b76 5000 (fX12_feed_h23 5000 f) a b c d e (nI k) w S1 = fX12_feed_h23 5000 f a b c d e (nI (k + 1)) (sU (sU S1 19 (n + k) (byB (wd5 a b c d e k) (k % 4))) 99 20 (nI (n + (k + 1)))) := by
          intro w hw
          subst hw
          unfold fX12_feed_b76
          have e24 : (24 : Int32) - 8 * (nI k - nI k / 4 * 4) = nI (24 - 8 * (k % 4)) := by
            rw [show (4 : Int32) = nI 4 from rfl, pk_rem (by omega) (by decide) (by decide), show (8 : Int32) = nI 8 from rfl, pk_mul, show (24 : Int32) = nI 24 from rfl, pk_sub (by have := Nat.mod_lt k (show 0 < 4 by decide); omega)]
          dsimp only [lt]
          rw [e24, i1, nI_clamp (by omega), chk_t (inb_t (by omega) (by decide)), sU_n (i := 99) (by omega), i1, nI_1, nI_1]
          rfl
        show fX12_feed_b23 5000 (fX12_feed_h23 5000 f) a b c d e (nI k) S1 = _
        unfold fX12_feed_b23
        rw [if_neg (show ¬ (20 : Int32) ≤ nI k from nI_ge (b := 20) hk (by decide))]
        unfold fX12_feed_b30
        by_cases h4 : 4 ≤ k
        · rw [if_pos (show (4 : Int32) ≤ nI k from nI_le (a := 4) h4 (by omega))]
          unfold fX12_feed_b40
          by_cases h8 : 8 ≤ k
          · rw [if_pos (show (8 : Int32) ≤ nI k from nI_le (a := 8) h8 (by omega))]
            unfold fX12_feed_b51
            by_cases h12 : 12 ≤ k
            · rw [if_pos (show (12 : Int32) ≤ nI k from nI_le (a := 12) h12 (by omega))]
              unfold fX12_feed_b62
              by_cases h16 : 16 ≤ k
              · rw [if_pos (show (16 : Int32) ≤ nI k from nI_le (a := 16) h16 (by omega))]
                exact b76 e (by unfold wd5; rw [if_neg (by omega), if_neg (by omega), if_neg (by omega), if_neg (by omega)])
              · rw [if_neg (show ¬ (16 : Int32) ≤ nI k from nI_ge (b := 16) (by omega) (by decide))]
                exact b76 d (by unfold wd5; rw [if_neg (by omega), if_neg (by omega), if_neg (by omega), if_pos (by omega)])
            · rw [if_neg (show ¬ (12 : Int32) ≤ nI k from nI_ge (b := 12) (by omega) (by decide))]
              exact b76 c (by unfold wd5; rw [if_neg (by omega), if_neg (by omega), if_pos (by omega)])
          · rw [if_neg (show ¬ (8 : Int32) ≤ nI k from nI_ge (b := 8) (by omega) (by decide))]
            exact b76 b (by unfold wd5; rw [if_neg (by omega), if_pos (by omega)])
        · rw [if_neg (show ¬ (4 : Int32) ≤ nI k from nI_ge (b := 4) (by omega) (by decide))]
          exact b76 a (by unfold wd5; rw [if_pos (by omega)])
  obtain ⟨⟨v, S'⟩, r1, r2, r3⟩ := main
  dsimp only at r2 r3
  subst r2
  exact ⟨S', r1, r3⟩
/-- only the tape changes -/
theorem JJ.tape {SX SM SX' SM' : gS} (h : JJ SX SM) (x : ∀ i j, ¬ (i = 2 ∧ j = 1) → i ≠ 3 → SX' i j = SX i j) (m : ∀ i j, ¬ (i = 99 ∧ j = 20) → i ≠ 19 → SM' i j = SM i j) (ht : jTape SX' SM') : JJ SX' SM' := by
  obtain ⟨n0, n1, h1, h2, h3, h4, h5⟩ := h
  have htw : xtw SX' = xtw SX := by
    unfold xtw
    rw [x 0 7 (by omega) (by omega)]
  refine ⟨n0, n1, ?_, ?_, ?_, ht, ?_⟩
  · rw [htw]
    refine h1.on2 (fun i j a b => x _ _ ?_ ?_) (fun j => m 5 j (by omega) (by omega)) (fun j => m 6 j (by omega) (by omega)) (fun j => m 7 j (by omega) (by omega)) (fun j => m 8 j (by omega) (by omega)) (fun j => m 9 j (by omega) (by omega)) (fun j => m 14 j (by omega) (by omega)) (fun j => m 15 j (by omega) (by omega)) (fun j => m 16 j (by omega) (by omega)) (fun j => m 18 j (by omega) (by omega))
    · have := xtw_cases (S := SX)
      omega
    · have := xtw_cases (S := SX)
      omega
  · refine jBook.on h2 (fun i a b => funext fun j => x _ _ (by omega) (by omega)) (fun c g a b => ?_) (m 99 39 (by omega) (by omega)) (m 99 40 (by omega) (by omega)) (funext fun j => m _ _ (by omega) (by omega)) (funext fun j => m _ _ (by omega) (by omega)) (funext fun j => m _ _ (by omega) (by omega)) (funext fun j => m _ _ (by omega) (by omega)) (funext fun j => m _ _ (by omega) (by omega))
    unfold mSt
    by_cases h0 : c = 0
    · rw [if_pos h0, if_pos h0, m _ _ (by omega) (by omega)]
    · rw [if_neg h0, if_neg h0, m _ _ (by omega) (by omega)]
  · exact jPic.on h3 (x 0 8 (by omega) (by omega)) (fun i j a b => x _ _ (by omega) (by omega)) (fun i j a b => m _ _ (by omega) (by omega)) (m 99 57 (by omega) (by omega)) (m 99 58 (by omega) (by omega)) (m 99 59 (by omega) (by omega))
  · unfold jMisc at h5 ⊢
    rw [x 1 3 (by omega) (by omega), m 99 29 (by omega) (by omega), m 99 41 (by omega) (by omega), x 0 7 (by omega) (by omega), x 1 1 (by omega) (by omega), x 14 2 (by omega) (by omega), x 17 2 (by omega) (by omega), x 82 2 (by omega) (by omega), x 85 2 (by omega) (by omega)]
    exact h5
theorem st_feed : Lw_feed JJ := by
  intro SX SM a b c d e hJ
  have hJ1 := hJ.same xSame.rf (code_same SM 0)
  obtain ⟨S1, hS1⟩ : ∃ z, z = sU SM 99 4 0 := ⟨_, rfl⟩
  rw [← hS1] at hJ1
  obtain ⟨n0, n1, hT, hN, hI, ⟨n, p1, p2, p3, p4⟩, hM⟩ := id hJ1
  have hX : fX11_feed 5000 a b c d e SX = if nI (n + 20) ≤ 700 then fX11_feed_b25 5000 a b c d e SX else fX11_feed_b23 5000 SX := by
    unfold fX11_feed fX11_feed_b0
    rw [p2, show (20 : Int32) = nI 20 from rfl, nI_add]
  have hMM : fX12_feed 5000 a b c d e SM = if nI (n + 20) ≤ 700 then fX12_feed_b20 5000 a b c d e S1 else fX12_feed_b18 5000 S1 := by
    unfold fX12_feed fX12_feed_b0
    dsimp only [lt]
    rw [← hS1, p3, show (20 : Int32) = nI 20 from rfl, nI_add]
  by_cases h7 : n + 20 ≤ 700
  · have hl : nI (n + 20) ≤ 700 := nI_le (b := 700) h7 (by decide)
    obtain ⟨X1, a1, a2, a3, a4⟩ := x_add (x := a) p2 (by omega)
    obtain ⟨X2, b1, b2, b3, b4⟩ := x_add (x := b) a2 (by omega)
    obtain ⟨X3, c1, c2, c3, c4⟩ := x_add (x := c) b2 (by omega)
    obtain ⟨X4, d1, d2, d3, d4⟩ := x_add (x := d) c2 (by omega)
    obtain ⟨X5, e1, e2, e3, e4⟩ := x_add (x := e) d2 (by omega)
    obtain ⟨M2, f1, f2, f3, f4⟩ := m_feed_h (a := a) (b := b) (c := c) (d := d) (e := e) p3 h7
    refine ⟨5000, (nI (n + 20), X5), 5000, (nI (n + 20), M2), ?_, ?_, rfl, ?_⟩
    · show fX11_feed 5000 a b c d e SX = _
      rw [hX, if_pos hl]
      unfold fX11_feed_b25
      rw [bnd_t a1]
      dsimp only
      rw [bnd_t b1]
      dsimp only
      rw [bnd_t c1]
      dsimp only
      rw [bnd_t d1]
      dsimp only
      rw [bnd_t e1]
      dsimp only
      rw [e2]
    · show fX12_feed 5000 a b c d e SM = _
      rw [hMM, if_pos hl]
      exact f1
    · show JJ X5 M2
      refine hJ1.tape (fun i j h1 h2 => ?_) (fun i j h1 h2 => f3 i j h1 (by omega)) ⟨n + 20, h7, e2, f2, fun i hi => ?_⟩
      · rw [e3 i j h1 (by omega), d3 i j h1 (by omega), c3 i j h1 (by omega), b3 i j h1 (by omega), a3 i j h1 (by omega)]
      · by_cases h0 : i < n
        · rw [e3 3 i (by omega) (by omega), d3 3 i (by omega) (by omega), c3 3 i (by omega) (by omega), b3 3 i (by omega) (by omega), a3 3 i (by omega) (by omega), f3 19 i (by omega) (by omega)]
          exact p4 i h0
        · obtain ⟨k, rfl⟩ : ∃ k, i = n + k := ⟨i - n, by omega⟩
          have hk : k < 20 := by omega
          obtain ⟨y, y1, y2⟩ := byB_n (wd5 a b c d e k) (k % 4)
          refine ⟨y, y1, ?_, by rw [f4 k hk]; exact y2⟩
          rw [← y2]
          by_cases q4 : k < 4
          · rw [e3 3 _ (by omega) (by omega), d3 3 _ (by omega) (by omega), c3 3 _ (by omega) (by omega), b3 3 _ (by omega) (by omega), a4 k q4, show k % 4 = k by omega]
            unfold wd5
            rw [if_pos q4]
          by_cases q8 : k < 8
          · rw [e3 3 _ (by omega) (by omega), d3 3 _ (by omega) (by omega), c3 3 _ (by omega) (by omega), show n + k = n + 4 + (k - 4) by omega, b4 (k - 4) (by omega), show k % 4 = k - 4 by omega]
            unfold wd5
            rw [if_neg q4, if_pos q8]
          by_cases q12 : k < 12
          · rw [e3 3 _ (by omega) (by omega), d3 3 _ (by omega) (by omega), show n + k = n + 4 + 4 + (k - 8) by omega, c4 (k - 8) (by omega), show k % 4 = k - 8 by omega]
            unfold wd5
            rw [if_neg q4, if_neg q8, if_pos q12]
          by_cases q16 : k < 16
          · rw [e3 3 _ (by omega) (by omega), show n + k = n + 4 + 4 + 4 + (k - 12) by omega, d4 (k - 12) (by omega), show k % 4 = k - 12 by omega]
            unfold wd5
            rw [if_neg q4, if_neg q8, if_neg q12, if_pos q16]
          · rw [show n + k = n + 4 + 4 + 4 + 4 + (k - 16) by omega, e4 (k - 16) (by omega), show k % 4 = k - 16 by omega]
            unfold wd5
            rw [if_neg q4, if_neg q8, if_neg q12, if_neg q16]
  · have hl : ¬ nI (n + 20) ≤ 700 := nI_ge (a := 700) (by omega) (by omega)
    refine ⟨5000, (-1, SX), 5000, (-1, S1), ?_, ?_, rfl, hJ1⟩
    · show fX11_feed 5000 a b c d e SX = _
      rw [hX, if_neg hl]
      rfl
    · show fX12_feed 5000 a b c d e SM = _
      rw [hMM, if_neg hl]
      rfl
