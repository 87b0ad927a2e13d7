/-! THE FIRST CALLS: fault, forget, count -/
theorem stp_ok {co : Nat → Int32} {ok : Nat → Prop} {SX SM SX' SM' : gS} {v : Int32} {FX : Nat → Option tR} {FM : Nat → Option (Int32 × gS)} (N M : Nat) (hJ : JJ SX' SM') (hco : co 0 = 0) (hok : ok 0) (h1 : FX N = some (0, v, SX')) (h2 : FM M = some (v, SM')) (hc : SM' 99 4 = 0) : StpT JJ co ok FX FM :=
  ⟨N, (0, v, SX'), M, (v, SM'), h1, h2, hok, by rw [hco]; exact hc, fun _ => rfl, hJ⟩
theorem stp_no {co : Nat → Int32} {ok : Nat → Prop} {SX' SM' : gS} {v w : Int32} {FX : Nat → Option tR} {FM : Nat → Option (Int32 × gS)} (N M t : Nat) (hJ : JJ SX' SM') (ht : t ≠ 0) (hok : ok t) (h1 : FX N = some (t, v, SX')) (h2 : FM M = some (w, SM')) (hc : SM' 99 4 = co t) : StpT JJ co ok FX FM :=
  ⟨N, (t, v, SX'), M, (w, SM'), h1, h2, hok, hc, fun h => absurd h ht, hJ⟩
/-- the reference's code is put, all else stays -/
theorem code_same (S : gS) (x : Int32) : mSame S (sU S 99 4 x) := mSame.rf.up rfl
theorem code_at (S : gS) (x : Int32) : sU S 99 4 x 99 4 = x := by rw [sU_ap, if_pos ⟨rfl, rfl⟩]
theorem st_fault : Lw_fault JJ := by
  intro SX SM hJ
  have hJ1 := hJ.same xSame.rf (code_same SM 0)
  refine ⟨0, (SX 1 3, SX), 0, (sU SM 99 4 0 99 29, sU SM 99 4 0), rfl, rfl, ?_, hJ1⟩
  obtain ⟨n0, n1, -, -, -, -, h⟩ := hJ1
  exact h.1
/-! what a call that acts may change -/
def oSame (P : Nat → Nat → Bool) (S S' : gS) : Prop := ∀ i j, P i j = false → S' i j = S i j
theorem oSame.rf {P : Nat → Nat → Bool} {S : gS} : oSame P S S := fun _ _ _ => rfl
theorem oSame.tr {P : Nat → Nat → Bool} {S S' S'' : gS} (h : oSame P S S') (h' : oSame P S' S'') : oSame P S S'' := fun i j k => (h' i j k).trans (h i j k)
theorem oSame.up {P : Nat → Nat → Bool} {S S' : gS} {a b : Nat} {x : Int32} (h : oSame P S S') (hs : P a b = true) : oSame P S (sU S' a b x) := by
  intro i j k
  rw [sU_ap]
  by_cases h2 : i = a ∧ j = b
  · rw [h2.1, h2.2, hs] at k
    cases k
  · rw [if_neg h2]
    exact h i j k
noncomputable def xAct (i j : Nat) : Bool := xScr i j || (21 ≤ i && i ≤ 45) || (i == 0 && j == 8)
noncomputable def mAct (i j : Nat) : Bool := mScr i j || i == 17 || (32 ≤ i && i ≤ 36) || (48 ≤ i && i ≤ 50) || (60 ≤ i && i ≤ 65) || (i == 99 && ((37 ≤ j && j ≤ 40) || (57 ≤ j && j ≤ 59)))
theorem xSame.act {S S' : gS} (h : xSame S S') : oSame xAct S S' := fun i j k => h i j (by
  unfold xAct at k
  rw [Bool.or_eq_false_iff, Bool.or_eq_false_iff] at k
  exact k.1.1)
theorem mSame.act {S S' : gS} (h : mSame S S') : oSame mAct S S' := fun i j k => h i j (by
  unfold mAct at k
  rw [Bool.or_eq_false_iff, Bool.or_eq_false_iff, Bool.or_eq_false_iff, Bool.or_eq_false_iff, Bool.or_eq_false_iff] at k
  exact k.1.1.1.1.1)
theorem jTown.on2 {n0 n1 T : Nat} {SX SM SX' SM' : gS} (h : jTown n0 n1 T SX SM) (hx : ∀ i j, i ≤ 14 → i ≠ 12 → SX' (T + i) j = SX (T + i) j) (m5 : ∀ j, SM' 5 j = SM 5 j) (m6 : ∀ j, SM' 6 j = SM 6 j) (m7 : ∀ j, SM' 7 j = SM 7 j) (m8 : ∀ j, SM' 8 j = SM 8 j) (m9 : ∀ j, SM' 9 j = SM 9 j) (m14 : ∀ j, SM' 14 j = SM 14 j) (m15 : ∀ j, SM' 15 j = SM 15 j) (m16 : ∀ j, SM' 16 j = SM 16 j) (m18 : ∀ j, SM' 18 j = SM 18 j) : jTown n0 n1 T SX' SM' := by
  obtain ⟨⟨a1, a2, a3⟩, ⟨b1, b2, b3⟩, ⟨w, w1, w2, w3, w4⟩, ⟨b, c1, c2, c3⟩, d, g, r1, r2⟩ := h
  have hx0 : ∀ j, SX' T j = SX T j := fun j => hx 0 j (by omega) (by omega)
  refine ⟨⟨by rw [hx0]; exact a1, by rw [m5]; exact a2, a3⟩, ⟨by rw [hx0]; exact b1, by rw [m5]; exact b2, b3⟩, ⟨w, w1, by rw [hx0]; exact w2, by rw [m5]; exact w3, fun i hi => ?_⟩, ⟨b, c1, by rw [hx0]; exact c2, by rw [m5]; exact c3⟩, fun k hk => ?_, fun q hq => ?_, ?_, ?_⟩
  · rw [hx 9 i (by omega) (by omega), m14]
    exact w4 i hi
  · rw [hx 1 k (by omega) (by omega), hx 2 k (by omega) (by omega), hx 3 k (by omega) (by omega), hx 4 k (by omega) (by omega), m7, m8, m9, m6]
    exact d k hk
  · rw [hx 5 q (by omega) (by omega), m18]
    exact g q hq
  · exact r1.on (hx 10 3 (by omega) (by omega)) (funext fun j => hx 11 j (by omega) (by omega)) (m5 4) (funext fun j => m15 j)
  · exact r2.on (hx 13 3 (by omega) (by omega)) (funext fun j => hx 14 j (by omega) (by omega)) (m5 5) (funext fun j => m16 j)
def jPic (n0 n1 : Nat) (SX SM : gS) : Prop := (SX 0 8 = 0 ∧ SM 99 57 = 0) ∨ (SX 0 8 = 1 ∧ SM 99 57 = 1 ∧ jImg n0 n1 SX SM)
/-- a call that acts: the town, the tape and the rest stay; what is so now and the image are to be shown -/
theorem JJ.act {SX SM SX' SM' : gS} (h : JJ SX SM) (x : oSame xAct SX SX') (m : oSame mAct SM SM') (k : ∀ n0 n1, jTown n0 n1 (xtw SX) SX SM → jNow n0 n1 SX SM → jPic n0 n1 SX SM → jNow n0 n1 SX' SM' ∧ jPic n0 n1 SX' SM') : JJ SX' SM' := by
  obtain ⟨n0, n1, h1, h2, h3, h4, h5⟩ := h
  obtain ⟨k1, k2⟩ := k n0 n1 h1 h2 h3
  refine ⟨n0, n1, ?_, k1, k2, ?_, ?_⟩
  · have ht : xtw SX' = xtw SX := by
      unfold xtw
      rw [x 0 7 rfl]
    rw [ht]
    refine h1.on2 (fun i j h1 h2 => x _ _ ?_) (fun j => m 5 j rfl) (fun j => m 6 j rfl) (fun j => m 7 j rfl) (fun j => m 8 j rfl) (fun j => m 9 j rfl) (fun j => m 14 j rfl) (fun j => m 15 j rfl) (fun j => m 16 j rfl) (fun j => m 18 j rfl)
    rcases xtw_cases (S := SX) with hT | hT
    · rw [hT]
      rcases (show i = 0 ∨ i = 1 ∨ i = 2 ∨ i = 3 ∨ i = 4 ∨ i = 5 ∨ i = 6 ∨ i = 7 ∨ i = 8 ∨ i = 9 ∨ i = 10 ∨ i = 11 ∨ i = 13 ∨ i = 14 by omega) with rfl | rfl | rfl | rfl | rfl | rfl | rfl | rfl | rfl | rfl | rfl | rfl | rfl | rfl <;> rfl
    · rw [hT]
      rcases (show i = 0 ∨ i = 1 ∨ i = 2 ∨ i = 3 ∨ i = 4 ∨ i = 5 ∨ i = 6 ∨ i = 7 ∨ i = 8 ∨ i = 9 ∨ i = 10 ∨ i = 11 ∨ i = 13 ∨ i = 14 by omega) with rfl | rfl | rfl | rfl | rfl | rfl | rfl | rfl | rfl | rfl | rfl | rfl | rfl | rfl <;> rfl
  · obtain ⟨n, k1, k2, k3, k4⟩ := h4
    refine ⟨n, k1, by rw [x 2 1 rfl]; exact k2, by rw [m 99 20 rfl]; exact k3, fun i hi => ?_⟩
    rw [x 3 i rfl, m 19 i rfl]
    exact k4 i hi
  · unfold jMisc at h5 ⊢
    rw [x 1 3 rfl, m 99 29 rfl, m 99 41 rfl, x 0 7 rfl, x 1 1 rfl, x 14 2 rfl, x 17 2 rfl, x 82 2 rfl, x 85 2 rfl]
    exact h5
/-- the image stays where its cells do -/
theorem jPic.on {n0 n1 : Nat} {SX SM SX' SM' : gS} (h : jPic n0 n1 SX SM) (x0 : SX' 0 8 = SX 0 8) (x : ∀ i j, 34 ≤ i → i ≤ 45 → SX' i j = SX i j) (m : ∀ i j, 60 ≤ i → i ≤ 65 → SM' i j = SM i j) (m7 : SM' 99 57 = SM 99 57) (m8 : SM' 99 58 = SM 99 58) (m9 : SM' 99 59 = SM 99 59) : jPic n0 n1 SX' SM' := by
  have fm : ∀ i, 60 ≤ i → i ≤ 65 → SM' i = SM i := fun i h1 h2 => funext fun j => m i j h1 h2
  unfold jPic
  rw [x0, m7]
  rcases h with h | ⟨h1, h2, h3⟩
  · exact Or.inl h
  · refine Or.inr ⟨h1, h2, jBook.on h3 (fun i h1 h2 => funext fun j => x _ _ (by omega) (by omega)) (mAc_on (fm 60 (by omega) (by omega))) m8 m9 (fm 61 (by omega) (by omega)) (fm 62 (by omega) (by omega)) (fm 63 (by omega) (by omega)) (fm 64 (by omega) (by omega)) (fm 65 (by omega) (by omega))⟩
theorem st_forget : Lw_forget JJ := by
  intro SX SM hJ
  have hJ1 := hJ.same xSame.rf (code_same SM 0)
  refine ⟨0, (0, sU SX 28 3 0), 0, (0, sU (sU SM 99 4 0) 99 40 0), rfl, rfl, rfl, ?_⟩
  generalize sU SM 99 4 0 = S1 at hJ1 ⊢
  show JJ (sU SX 28 3 0) (sU S1 99 40 0)
  refine hJ1.act (oSame.rf.up rfl) (oSame.rf.up rfl) (fun n0 n1 hT hN hI => ⟨?_, hI.on ?_ (fun i j h1 h2 => ?_) (fun i j h1 h2 => ?_) ?_ ?_ ?_⟩)
  · obtain ⟨s, ⟨a, a1, a2, a3, a4⟩, q, t⟩ := hN
    refine ⟨s.on (fun c g _ hc => ?_) (fun c g h1 hc => ?_), ⟨a, a1, a2, a3, fun i hi => (a4 i hi).on (fun c g _ _ => rfl) (fun c g _ _ => rfl)⟩, ⟨0, by omega, ?_, ?_, fun i h => by omega⟩, fun i hi => ?_⟩
    · unfold xSt
      rw [sU_ap, if_neg (by omega)]
    · unfold mSt
      by_cases h0 : c = 0
      · rw [if_pos h0, if_pos h0, sU_ap, if_neg (by have := h1 h0; omega)]
      · rw [if_neg h0, if_neg h0, sU_ap, if_neg (by omega)]
    · show sU SX 28 3 0 28 3 = nI 0
      rw [sU_ap, if_pos ⟨rfl, rfl⟩]
      rfl
    · rw [sU_ap, if_pos ⟨rfl, rfl⟩]
      rfl
    · show sU SX 28 3 0 32 i = sU S1 99 40 0 17 i
      rw [sU_ap, sU_ap, if_neg (by omega), if_neg (by omega)]
      exact t i hi
  · rw [sU_ap, if_neg (by omega)]
  · rw [sU_ap, if_neg (by omega)]
  · rw [sU_ap, if_neg (by omega)]
  · rw [sU_ap, if_neg (by omega)]
  · rw [sU_ap, if_neg (by omega)]
  · rw [sU_ap, if_neg (by omega)]
noncomputable def sumR (row : Nat → Int32) : Nat → Nat → Int32 → Int32
  | 0, _, acc => acc
  | m + 1, k, acc => sumR row m (k + 1) (acc + row k)
theorem sumR_eq {r r' : Nat → Int32} : ∀ (m k : Nat) (acc : Int32), (∀ i, k ≤ i → i < k + m → r i = r' i) → sumR r m k acc = sumR r' m k acc := by
  intro m
  induction m with
  | zero => intro k acc h; rfl
  | succ m ih =>
    intro k acc h
    show sumR r m (k + 1) (acc + r k) = sumR r' m (k + 1) (acc + r' k)
    rw [h k (Nat.le_refl _) (by omega)]
    exact ih (k + 1) _ (fun i h1 h2 => h i (by omega) (by omega))
theorem x_purses_h {N n k0 k1 : Nat} {S : gS} (hn : S k1 5 = nI n) (h6 : n ≤ 6) : ∀ (m k : Nat) (acc : Int32) (fuel : Nat), k + m = n → m < fuel → fX7_purses_h4 N fuel k0 k1 acc (nI k) S = some (sumR (S (k0 + 2)) m k acc, S) := by
  intro m
  induction m with
  | zero =>
    intro k acc fuel h1 h2
    obtain ⟨f, rfl⟩ : ∃ f, fuel = f + 1 := ⟨fuel - 1, by omega⟩
    show fX7_purses_b4 N _ k0 k1 acc (nI k) S = _
    unfold fX7_purses_b4
    rw [hn, if_pos (nI_le (by omega) (by omega))]
    rfl
  | succ m ih =>
    intro k acc fuel h1 h2
    obtain ⟨f, rfl⟩ : ∃ f, fuel = f + 1 := ⟨fuel - 1, by omega⟩
    show fX7_purses_b4 N _ k0 k1 acc (nI k) S = _
    unfold fX7_purses_b4
    rw [hn, if_neg (nI_ge (by omega) (by omega))]
    unfold fX7_purses_b12
    rw [chk_t (inb_t (by omega) (by decide)), nI_clamp (by omega), nI_1]
    exact ih (k + 1) _ f (by omega) (by omega)
