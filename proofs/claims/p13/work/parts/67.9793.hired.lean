section
variable {B : Nat → Nat} {n s p k U g0 g1 nw b c1 c2 tk : Nat} {S SM S' SM' S1 SM1 S2 SM2 : gS}
theorem x_hired {x : Int32} (h5 : S U 5 = nI g1) (h6 : g1 ≤ 6) : ∃ v, fX9_isHired 5000 U x S = some (v, S) ∧ ((∃ g, g < g1 ∧ S (U + 8) g = x) → v = 1) ∧ ((∀ g, g < g1 → ¬ S (U + 8) g = x) → v = 0) := by
  have aux : ∀ (m i f : Nat), i + m = g1 → m < f → ∃ v, fX9_isHired_h2 5000 f U x (nI i) S = some (v, S) ∧ ((∃ g, i ≤ g ∧ g < g1 ∧ S (U + 8) g = x) → v = 1) ∧ ((∀ g, i ≤ g → g < g1 → ¬ S (U + 8) g = x) → v = 0) := by
    intro m
    induction m with
    | zero =>
      intro i f hi hf
      obtain ⟨f, rfl⟩ : ∃ y, f = y + 1 := ⟨f - 1, by omega⟩
      refine ⟨0, ?_, fun z => ?_, fun _ => rfl⟩
      · show fX9_isHired_b2 5000 (fX9_isHired_h2 5000 f) U x (nI i) S = _
        unfold fX9_isHired_b2
        rw [h5, if_pos (nI_le (by omega) (by omega))]
        rfl
      · obtain ⟨g, z1, z2, -⟩ := z
        omega
    | succ m ih =>
      intro i f hi hf
      obtain ⟨f, rfl⟩ : ∃ y, f = y + 1 := ⟨f - 1, by omega⟩
      have e : fX9_isHired_h2 5000 (f + 1) U x (nI i) S = if S (U + 8) i = x then some (1, S) else fX9_isHired_h2 5000 f U x (nI (i + 1)) S := by
        show fX9_isHired_b2 5000 (fX9_isHired_h2 5000 f) U x (nI i) S = _
        unfold fX9_isHired_b2
        rw [h5, if_neg (nI_ge (by omega) (by omega))]
        unfold fX9_isHired_b10
        rw [chk_t (inb_t (by omega) (by decide)), nI_clamp (by omega)]
        unfold fX9_isHired_b22
        rw [nI_1 i]
        rfl
      rw [e]
      by_cases hx : S (U + 8) i = x
      · rw [if_pos hx]
        exact ⟨1, rfl, fun _ => rfl, fun z => absurd hx (z i (by omega) (by omega))⟩
      · rw [if_neg hx]
        obtain ⟨v, v1, v2, v3⟩ := ih (i + 1) f (by omega) (by omega)
        refine ⟨v, v1, fun ⟨g, z1, z2, z3⟩ => v2 ⟨g, ?_, z2, z3⟩, fun z => v3 (fun g z1 z2 => z g (by omega) z2)⟩
        by_cases hg : g = i
        · subst hg
          exact absurd z3 hx
        · omega
  obtain ⟨v, v1, v2, v3⟩ := aux g1 0 5000 (by omega) (by omega)
  exact ⟨v, v1, fun ⟨g, z1, z2⟩ => v2 ⟨g, by omega, z1, z2⟩, fun z => v3 (fun g _ z1 => z g z1)⟩
/-- a number up to 9999, read by both, not yet gone over by the reference -/
theorem j_now (T : tkJ B n s p k S SM) (F : fine S SM) : (k ≠ 0 ∧ S 2 4 = 2 ∧ ∃ y, y ≤ 9999 ∧ S 2 6 = nI y ∧ fX12_numberNow 5000 0 9999 SM = some (nI y, SM) ∧ fX3_readNumber 5000 0 9999 S = bnd (fX8_advance 5000 S) (fun q => some (nI y, q.2))) ∨ ((¬ S 2 4 = 2 ∨ S 2 6 = nI 10000) ∧ ∃ S' SM', fX3_readNumber 5000 0 9999 S = some (S' 2 6, S') ∧ fX12_numberNow 5000 0 9999 SM = some (0, SM') ∧ flt S' SM' ∧ NUM B n s S SM S' SM' False) := by
  have n7 := T.1.1
  have hk := T.2.2.2.1
  unfold tkK at hk
  have bad : ∀ q : Nat, 1 ≤ q ∧ q ≤ 5 → (fX3_readNumber 5000 0 9999 S = bnd (fX3_refuse 5000 (nI q) S) (fun q1 => fX3_readNumber_b39 5000 q1.2)) → (fX12_numberNow 5000 0 9999 SM = bnd (fX12_wrong 5000 (nI q) SM) (fun q1 => fX12_numberNow_b59 5000 q1.2)) → ∃ S' SM', fX3_readNumber 5000 0 9999 S = some (S' 2 6, S') ∧ fX12_numberNow 5000 0 9999 SM = some (0, SM') ∧ flt S' SM' ∧ NUM B n s S SM S' SM' False := by
    intro q hq e1 e2
    obtain ⟨S', SM', a1, a2, a3, a4⟩ := j_refuse (q := q) (G := False) hq T F
    obtain ⟨f1, f2, f3⟩ := flt_x (N := 5000) a3
    refine ⟨S', SM', ?_, ?_, a3, a4⟩
    · rw [e1, bnd_t a1]
      show fX3_readNumber_b39 5000 S' = _
      unfold fX3_readNumber_b39
      rw [bnd_t f1]
      rfl
    · rw [e2, bnd_t a2]
      show fX12_numberNow_b59 5000 SM' = _
      unfold fX12_numberNow_b59
      rw [if_neg f2]
      rfl
  by_cases k2 : k = 2
  · subst k2
    obtain ⟨v1, v2⟩ := T.2.2.2.2 rfl
    have e4 : S 2 4 = 2 := T.2.1.2.2.2
    have m4 : SM 99 23 = 2 := T.2.2.1.2.2.2.2
    have hX : fX3_readNumber 5000 0 9999 S = fX3_readNumber_b19 5000 0 9999 S := by
      unfold fX3_readNumber fX3_readNumber_b0
      rw [if_pos e4]
    have hM : fX12_numberNow 5000 0 9999 SM = fX12_numberNow_b25 5000 0 9999 SM := by
      unfold fX12_numberNow fX12_numberNow_b0
      rw [if_pos F.2]
      unfold fX12_numberNow_b9
      rw [if_pos m4]
    have eps : SM 99 26 - SM 99 25 = nI (p - s) := by rw [T.2.2.1.2.2.1, T.2.2.1.2.2.2.1, pk_sub hk.1]
    by_cases q : p - s ≤ 4
    · obtain ⟨y, y1, y2, y3⟩ := v1 q
      refine Or.inl ⟨by decide, e4, y, y1, y2, ?_, ?_⟩
      · rw [hM]
        unfold fX12_numberNow_b25
        rw [eps, if_neg (show ¬ (4 : Int32) < nI (p - s) from nI_nlt (a := 4) (by omega) (by decide))]
        unfold fX12_numberNow_b38
        rw [y3, if_neg (show ¬ nI y < 0 from nI_nlt (b := 0) (by omega) (by omega))]
        unfold fX12_numberNow_b46
        rw [y3, if_pos (show nI y ≤ 9999 from nI_le (b := 9999) y1 (by decide))]
        unfold fX12_numberNow_b59
        rw [if_pos F.2]
        unfold fX12_numberNow_b66
        rw [y3]
        rfl
      · rw [hX]
        unfold fX3_readNumber_b19
        have ew : wth (nI y) 0 9999 = true := by
          unfold wth
          rw [decide_eq_true (show (0 : Int32) ≤ nI y from nI_le (a := 0) (by omega) (by omega)), decide_eq_true (show nI y ≤ 9999 from nI_le (b := 9999) y1 (by decide))]
          rfl
        rw [y2, bnd_t x_isWithin, ew]
        show fX3_readNumber_b39 5000 S = _
        unfold fX3_readNumber_b39
        rw [bnd_t (fine_x F), y2]
        rfl
    · have h6 := v2 (by omega)
      refine Or.inr ⟨Or.inr h6, bad 2 (by decide) ?_ ?_⟩
      · rw [hX]
        unfold fX3_readNumber_b19
        rw [h6, bnd_t x_isWithin, show wth (nI 10000) 0 9999 = false by decide]
        rfl
      · rw [hM]
        unfold fX12_numberNow_b25
        rw [eps, if_pos (show (4 : Int32) < nI (p - s) from nI_lt (a := 4) (by omega) (by omega))]
        rfl
  · have e4 : ¬ S 2 4 = 2 := by
      rw [T.2.1.2.2.2]
      exact fun z => k2 ((nI_eq (b := 2) (by omega) (by omega)).mp z)
    have m4 : ¬ SM 99 23 = 2 := by
      rw [T.2.2.1.2.2.2.2]
      exact fun z => k2 ((nI_eq (b := 2) (by omega) (by omega)).mp z)
    refine Or.inr ⟨Or.inl e4, bad 1 (by decide) ?_ ?_⟩
    · unfold fX3_readNumber fX3_readNumber_b0
      rw [if_neg e4]
      rfl
    · unfold fX12_numberNow fX12_numberNow_b0
      rw [if_pos F.2]
      unfold fX12_numberNow_b9
      rw [if_neg m4]
      rfl
theorem tk_bt : ∀ t, t < 256 → ∀ y, y < 8 → bt (nI t) (nI y) = t.testBit y ∧ nI t ||| ((1 : Int32) <<< (nI y &&& 31)) = nI (t ||| 2 ^ y) ∧ (t ||| 2 ^ y) < 256 := by decide +kernel
/-- what a GUILD hires -/
theorem j_hired (hg1 : g1 < 6) (hU : xdr S = U) (hT : U = 72 ∨ U = 4) (h0 : S U 0 = nI g0) (m0 : SM 5 6 = nI g0) (h8 : g0 ≤ 8) (h5 : S U 5 = nI g1) (m30 : SM 99 30 = nI tk) (t8 : tk < 256) (tb : ∀ q, q < 8 → (tk.testBit q = true ↔ ∃ g, g < g1 ∧ S (U + 8) g = nI q)) (T : tkJ B n s p k S SM) (F : fine S SM) : ∃ v S' SM', fX3_readHired 5000 S = some (v, S') ∧ bnd (fX12_numberNow 5000 0 9999 SM) (fun q2 => if q2.2 99 27 = 0 then fX12_sayGuild_b99 5000 (nI (6 + g1)) q2.1 q2.2 else fX12_sayGuild_b115 5000 (nI (6 + g1)) q2.1 q2.2) = fX12_sayGuild_b168 5000 SM' ∧ oSame xNu S S' ∧ (∀ i j, mNu i j = false → ¬ (i = 99 ∧ j = 30) → ¬ (i = 13 ∧ j = 6 + g1) → SM' i j = SM i j) ∧ ∃ s' p' k', tkJ B n s' p' k' S' SM' ∧ ((fine S' SM' ∧ s + 1 ≤ s' ∧ ∃ y, y < g0 ∧ v = nI y ∧ tk.testBit y = false ∧ SM' 99 30 = nI (tk ||| 2 ^ y) ∧ SM' 13 (6 + g1) = nI y) ∨ flt S' SM') := by
  have bd1 : ∀ (M : gS) (v : Int32), M 99 27 ≠ 0 → fX12_sayGuild_b138 5000 (nI (6 + g1)) v M = fX12_sayGuild_b168 5000 M := by
    intro M v h
    unfold fX12_sayGuild_b138
    rw [if_neg h]
  have bd2 : ∀ (M : gS) (v : Int32), M 99 27 ≠ 0 → fX12_sayGuild_b115 5000 (nI (6 + g1)) v M = fX12_sayGuild_b168 5000 M := by
    intro M v h
    unfold fX12_sayGuild_b115
    rw [if_neg h]
    exact bd1 M v h
  have b71 : ∀ S' SM' : gS, ∀ s' p' k', tkJ B n s' p' k' S' SM' → flt S' SM' → fX3_readHired_b71 5000 S' = some (S' 2 6, S') := by
    intro S' SM' s' p' k' T' h
    unfold fX3_readHired_b71
    rw [bnd_t (show fX3_readNumber 5000 0 9999 S' = _ from (j_num0 (lo := 0) (hi := 9999) T' h).1)]
  rcases j_now T F with ⟨k0, e4, y, y9, e6, eM, eX⟩ | ⟨hc, S', SM', r1, r2, r3, ⟨o1, o2, s', p', k', T', -⟩⟩
  · have hX : fX3_readHired 5000 S = fX3_readHired_b24 5000 S := by
      unfold fX3_readHired fX3_readHired_b0
      rw [if_pos e4]
      unfold fX3_readHired_b11
      rw [e6, if_neg (show ¬ (9999 : Int32) < nI y from nI_nlt (a := 9999) y9 (by decide))]
    have hM : bnd (fX12_numberNow 5000 0 9999 SM) (fun q2 => if q2.2 99 27 = 0 then fX12_sayGuild_b99 5000 (nI (6 + g1)) q2.1 q2.2 else fX12_sayGuild_b115 5000 (nI (6 + g1)) q2.1 q2.2) = fX12_sayGuild_b99 5000 (nI (6 + g1)) (nI y) SM := by
      rw [bnd_t eM]
      exact if_pos F.2
    by_cases hy : y < g0
    · obtain ⟨v, i1, i2, i3⟩ := x_hired (x := nI y) h5 (by omega)
      have hX2 : fX3_readHired_b24 5000 S = if v = 0 then fX3_readHired_b71 5000 S else fX3_readHired_b66 5000 S := by
        unfold fX3_readHired_b24
        dsimp only [lt]
        rw [hU, e6, bnd_t (x_isGrotto h0 (by omega)), inb_t hy (by omega)]
        show fX3_readHired_b49 5000 S = _
        unfold fX3_readHired_b49
        dsimp only [lt]
        rw [hU, e6, bnd_t i1]
      obtain ⟨w1, w2, w3⟩ := tk_bt tk t8 y (by omega)
      have hM2 : fX12_sayGuild_b99 5000 (nI (6 + g1)) (nI y) SM = if iv (tk.testBit y) = 0 then fX12_sayGuild_b138 5000 (nI (6 + g1)) (nI y) SM else fX12_sayGuild_b133 5000 (nI (6 + g1)) (nI y) SM := by
        unfold fX12_sayGuild_b99
        rw [m0, if_pos (nI_lt hy (by omega))]
        unfold fX12_sayGuild_b115
        rw [if_pos F.2]
        unfold fX12_sayGuild_b122
        rw [bnd_t m_isOf, m30, w1]
      cases htb : tk.testBit y with
      | true =>
        obtain rfl : v = 1 := i2 ((tb y (by omega)).mp htb)
        rw [htb] at hM2
        obtain ⟨S', SM', a1, a2, a3, ⟨o1, o2, s', p', k', T', -⟩⟩ := j_refuse (q := 4) (G := False) (by decide) T F
        refine ⟨S' 2 6, S', SM', ?_, ?_, o1, fun i j z _ _ => o2 i j z, s', p', k', T', Or.inr a3⟩
        · rw [hX, hX2]
          show fX3_readHired_b66 5000 S = _
          unfold fX3_readHired_b66
          rw [bnd_t (show fX3_refuse 5000 4 S = _ from a1)]
          exact b71 S' SM' s' p' k' T' a3
        · rw [hM, hM2]
          show fX12_sayGuild_b133 5000 (nI (6 + g1)) (nI y) SM = _
          unfold fX12_sayGuild_b133
          rw [bnd_t (show fX12_wrong 5000 4 SM = _ from a2)]
          exact bd1 SM' (nI y) (flt_x (N := 5000) a3).2.1
      | false =>
        obtain rfl : v = 0 := i3 (fun g z1 z2 => by
          have := (tb y (by omega)).mpr ⟨g, z1, z2⟩
          rw [htb] at this
          cases this)
        rw [htb] at hM2
        obtain ⟨S', SM', s', p', k', a1, a2, a3, a4, a5, a6, a7⟩ := j_tok T F k0
        have km : ∀ i j, ¬ (i = 99 ∧ j = 30) → ¬ (i = 13 ∧ j = 6 + g1) → sU (sU SM' 99 30 (nI (tk ||| 2 ^ y))) 13 (6 + g1) (nI y) i j = SM' i j := fun i j z1 z2 => by rw [sU_n z2, sU_n z1]
        refine ⟨nI y, S', sU (sU SM' 99 30 (nI (tk ||| 2 ^ y))) 13 (6 + g1) (nI y), ?_, ?_, fun i j z => a6 i j (xNu_f z).1, fun i j z1 z2 z3 => by rw [km i j z2 z3]; exact a7 i j (mNu_f z1).1, s', p', k', a3.on (fun _ => rfl) (fun _ => rfl) (fun j _ _ => km 99 j (by omega) (by omega)) (fun j _ => km 19 j (by omega) (by omega)), Or.inl ⟨⟨a4.1, by rw [km 99 27 (by omega) (by omega)]; exact a4.2⟩, a5, y, hy, rfl, htb, by rw [sU_n (by omega), sU_s], sU_s⟩⟩
        · rw [hX, hX2]
          show fX3_readHired_b71 5000 S = _
          unfold fX3_readHired_b71
          rw [eX, bnd_t a1]
          rfl
        · rw [hM, hM2]
          show fX12_sayGuild_b138 5000 (nI (6 + g1)) (nI y) SM = _
          unfold fX12_sayGuild_b138
          rw [if_pos F.2]
          unfold fX12_sayGuild_b145
          dsimp only [lt]
          rw [bnd_t a2]
          dsimp only
          rw [show SM' 99 30 = nI tk from (a7 99 30 rfl).trans m30, w2, chk_t (inb_t (by omega) (by decide)), nI_clamp (by omega)]
    · obtain ⟨S', SM', a1, a2, a3, ⟨o1, o2, s', p', k', T', -⟩⟩ := j_refuse (q := 3) (G := False) (by decide) T F
      refine ⟨S' 2 6, S', SM', ?_, ?_, o1, fun i j z _ _ => o2 i j z, s', p', k', T', Or.inr a3⟩
      · rw [hX]
        unfold fX3_readHired_b24
        dsimp only [lt]
        rw [hU, e6, bnd_t (x_isGrotto h0 (by omega)), inb_f2 (by omega) (nI_le (by omega) (by omega))]
        show fX3_readHired_b41 5000 S = _
        unfold fX3_readHired_b41
        rw [bnd_t (show fX3_refuse 5000 3 S = _ from a1)]
        exact b71 S' SM' s' p' k' T' a3
      · rw [hM]
        unfold fX12_sayGuild_b99
        rw [m0, if_neg (nI_nlt (by omega) (by omega))]
        unfold fX12_sayGuild_b110
        rw [bnd_t (show fX12_wrong 5000 3 SM = _ from a2)]
        exact bd2 SM' (nI y) (flt_x (N := 5000) a3).2.1
  · refine ⟨S' 2 6, S', SM', ?_, ?_, o1, fun i j z _ _ => o2 i j z, s', p', k', T', Or.inr r3⟩
    · have e71 : fX3_readHired_b71 5000 S = some (S' 2 6, S') := by
        unfold fX3_readHired_b71
        rw [bnd_t r1]
      unfold fX3_readHired fX3_readHired_b0
      by_cases e4 : S 2 4 = 2
      · rw [if_pos e4]
        unfold fX3_readHired_b11
        rcases hc with hc | hc
        · exact absurd e4 hc
        · rw [hc, if_pos (by decide)]
          exact e71
      · rw [if_neg e4]
        exact e71
    · rw [bnd_t r2]
      show (if SM' 99 27 = 0 then _ else fX12_sayGuild_b115 5000 (nI (6 + g1)) 0 SM') = _
      rw [if_neg (flt_x (N := 5000) r3).2.1]
      exact bd2 SM' 0 (flt_x (N := 5000) r3).2.1
end
