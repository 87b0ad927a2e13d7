/-! questions of what drips: the frame of a question, dripping -/
noncomputable def mMov (i j : Nat) : Bool := (mScr i j && i != 46) || (32 ≤ i && i ≤ 35 && j < 6) || (i == 99 && (j == 37 || j == 38))
theorem mMov_f {i j : Nat} (h : mScr i j = false) (h1 : ¬ (32 ≤ i ∧ i ≤ 35 ∧ j < 6)) (h2 : ¬ (i = 99 ∧ (j = 37 ∨ j = 38))) : mMov i j = false := by
  unfold mMov
  rw [h, Bool.false_and, Bool.false_or]
  have e1 : (decide (32 ≤ i) && decide (i ≤ 35) && decide (j < 6)) = false := by
    cases h3 : (decide (32 ≤ i) && decide (i ≤ 35) && decide (j < 6)) with
    | false => rfl
    | true =>
      rw [Bool.and_eq_true, Bool.and_eq_true, decide_eq_true_iff, decide_eq_true_iff, decide_eq_true_iff] at h3
      exact absurd ⟨h3.1.1, h3.1.2, h3.2⟩ h1
  rw [e1, Bool.false_or]
  cases h3 : (i == 99 && (j == 37 || j == 38)) with
  | false => rfl
  | true =>
    rw [Bool.and_eq_true, Bool.or_eq_true, beq_iff_eq, beq_iff_eq, beq_iff_eq] at h3
    exact absurd h3 h2
/-- a question: packed, gone on, unpacked: all is as it was but the scratch -/
theorem m_back {S0 S1 S2 S3 : gS} (p : pkd 46 0 S0 S1) (s01 : ∀ i j, ¬ (i = 46 ∧ 0 ≤ j ∧ j < 0 + 26) → S1 i j = S0 i j) (s12 : oSame mMov S1 S2) (s23 : ∀ i j, ¬ (32 ≤ i ∧ i ≤ 35 ∧ j < 6) → ¬ (i = 99 ∧ (j = 37 ∨ j = 38)) → S3 i j = S2 i j) (p3 : pkd 46 0 S3 S2) : mSame S0 S3 := by
  have e46 : ∀ j, S2 46 j = S1 46 j := fun j => s12 46 j rfl
  intro i j h
  by_cases h1 : 32 ≤ i ∧ i ≤ 35 ∧ j < 6
  · obtain ⟨q1, q2, q3, q4⟩ := p.2.2 j h1.2.2
    obtain ⟨r1, r2, r3, r4⟩ := p3.2.2 j h1.2.2
    rcases (show i = 32 ∨ i = 33 ∨ i = 34 ∨ i = 35 by omega) with rfl | rfl | rfl | rfl
    · rw [← r1, e46, q1]
    · rw [← r2, e46, q2]
    · rw [← r3, e46, q3]
    · rw [← r4, e46, q4]
  · by_cases h2 : i = 99 ∧ (j = 37 ∨ j = 38)
    · obtain ⟨rfl, rfl | rfl⟩ := h2
      · rw [← p3.1, e46, p.1]
      · rw [← p3.2.1, e46, p.2.1]
    · rw [s23 i j h1 h2, s12 i j (mMov_f h h1 h2), s01 i j (fun q => by rw [q.1] at h; cases h)]
theorem ahead_ix {h c : Nat} (hc : 1 ≤ c) : (nI h + nI c) - 1 = nI (h + c - 1) := by
  rw [nI_add, show h + c = (h + c - 1) + 1 by omega, nI_pred]
  rfl
section
variable {N T n0 w h k c : Nat} {S : gS}
theorem x_dripsAhead (hT : xtw S = T) (h0 : S T 0 = nI n0) (hn : n0 ≤ 8) (hk : k < n0) (hd : ∀ k, k < n0 → ∃ d : Nat, 1 ≤ d ∧ d ≤ 12 ∧ S (T + 1) k = nI d) (hw : S T 10 = nI w) (hw8 : w ≤ 8) (hh : S 21 0 = nI h) (hc : 1 ≤ c) (hb : h + c < 2 ^ 31) :
    fX11_dripsAhead N (nI k) (nI c) S = some (iv (drS (S (T + 2) k) (S (T + 1) k) (nI (h + c - 1)) (wetS w (S (T + 9)) (h + c - 1)) (bt (S 21 1) (nI k))), S) := by
  obtain ⟨d, d1, d2, d3⟩ := hd k hk
  unfold fX11_dripsAhead fX11_dripsAhead_b0
  dsimp only [lt]
  rw [hT, hh, ahead_ix hc, bnd_t (x_wetOf hw hw8 (by omega))]
  dsimp only
  rw [bnd_t (x_drips h0 hn hk d3 d1 d2)]
  exact chk_t zb_iv
theorem x_dripBits_h (hT : xtw S = T) (h0 : S T 0 = nI n0) (hn : n0 ≤ 8) (hd : ∀ k, k < n0 → ∃ d : Nat, 1 ≤ d ∧ d ≤ 12 ∧ S (T + 1) k = nI d) (hw : S T 10 = nI w) (hw8 : w ≤ 8) (hh : S 21 0 = nI h) (hc : 1 ≤ c) (hb : h + c < 2 ^ 31) : ∀ (m k : Nat) (acc : Int32) (fuel : Nat), k + m = n0 → m < fuel →
    fX11_dripBits_h4 N fuel (nI c) acc (nI k) S = some (drB (fun k => drS (S (T + 2) k) (S (T + 1) k) (nI (h + c - 1)) (wetS w (S (T + 9)) (h + c - 1)) (bt (S 21 1) (nI k))) m k acc, S) := by
  intro m
  induction m with
  | zero =>
    intro k acc fuel h1 h2
    obtain ⟨f, rfl⟩ : ∃ f, fuel = f + 1 := ⟨fuel - 1, by omega⟩
    show fX11_dripBits_b4 N _ (nI c) acc (nI k) S = _
    unfold fX11_dripBits_b4
    dsimp only [lt]
    rw [hT, h0, if_pos (nI_le (by omega) (by omega))]
    rfl
  | succ m ih =>
    intro k acc fuel h1 h2
    obtain ⟨f, rfl⟩ : ∃ f, fuel = f + 1 := ⟨fuel - 1, by omega⟩
    show fX11_dripBits_b4 N (fX11_dripBits_h4 N f) (nI c) acc (nI k) S = _
    unfold fX11_dripBits_b4
    dsimp only [lt]
    rw [hT, h0, if_neg (nI_ge (by omega) (by omega))]
    unfold fX11_dripBits_b15
    rw [bnd_t (x_dripsAhead hT h0 hn (by omega) hd hw hw8 hh hc hb)]
    show _ = some (drB (fun k => drS (S (T + 2) k) (S (T + 1) k) (nI (h + c - 1)) (wetS w (S (T + 9)) (h + c - 1)) (bt (S 21 1) (nI k))) m (k + 1) (if drS (S (T + 2) k) (S (T + 1) k) (nI (h + c - 1)) (wetS w (S (T + 9)) (h + c - 1)) (bt (S 21 1) (nI k)) = true then acc ||| ((1 : Int32) <<< (nI k &&& 31)) else acc), S)
    by_cases hx : drS (S (T + 2) k) (S (T + 1) k) (nI (h + c - 1)) (wetS w (S (T + 9)) (h + c - 1)) (bt (S 21 1) (nI k)) = true
    · rw [if_pos hx, hx]
      show fX11_dripBits_b24 N (fX11_dripBits_h4 N f) (nI c) acc (nI k) S = _
      unfold fX11_dripBits_b24 fX11_dripBits_b30
      rw [nI_1]
      exact ih (k + 1) _ f (by omega) (by omega)
    · rw [if_neg hx, Bool.not_eq_true _ |>.mp hx]
      show fX11_dripBits_b30 N (fX11_dripBits_h4 N f) (nI c) acc (nI k) S = _
      unfold fX11_dripBits_b30
      rw [nI_1]
      exact ih (k + 1) _ f (by omega) (by omega)
end
/-- what drips in HOUR h, by the class's rows -/
noncomputable def bX (n0 w : Nat) (SX : gS) (h : Nat) : Int32 := drB (fun k => drS (SX (xtw SX + 2) k) (SX (xtw SX + 1) k) (nI h) (wetS w (SX (xtw SX + 9)) h) (bt (SX 21 1) (nI k))) n0 0 0
/-- what both sides know of the town for this -/
def jDr (n0 w h : Nat) (SX SM : gS) : Prop :=
  (SX (xtw SX) 0 = nI n0 ∧ SM 5 0 = nI n0 ∧ n0 ≤ 8) ∧ (w ≤ 8 ∧ SX (xtw SX) 10 = nI w ∧ SM 5 3 = nI w ∧ ∀ i, i < w → ∃ x : Nat, x ≤ 9 ∧ SX (xtw SX + 9) i = nI x ∧ SM 14 i = nI x) ∧
  (∀ k, k < n0 → ∃ d : Nat, 1 ≤ d ∧ d ≤ 12 ∧ SX (xtw SX + 1) k = nI d ∧ SM 7 k = nI d) ∧ (∀ k, k < n0 → SX (xtw SX + 2) k = SM 8 k) ∧ SX 21 1 = SM 99 38 ∧ (h ≤ 999 ∧ SX 21 0 = nI h ∧ SM 99 37 = nI h) ∧ SM 99 41 = -1
theorem JJ.dr {SX SM : gS} (hJ : JJ SX SM) : ∃ n0 n1 w h : Nat, jTown n0 n1 (xtw SX) SX SM ∧ jNow n0 n1 SX SM ∧ jDr n0 w h SX SM := by
  obtain ⟨n0, n1, hT, hN, hI, hP, hM⟩ := hJ
  have hT' := hT
  have hN' := hN
  obtain ⟨⟨a1, a2, a3⟩, ⟨b1, b2, b3⟩, ⟨w, w1, w2, w3, w4⟩, ⟨b, d1, d2, d3⟩, hg, hgr, r1, r2⟩ := hT
  obtain ⟨⟨⟨h, e1, e2, e3⟩, e4, e5, e6, e7⟩, -⟩ := hN
  refine ⟨n0, n1, w, h, hT', hN', ⟨a1, a2, a3⟩, ⟨w1, w2, w3, w4⟩, fun k hk => ?_, fun k hk => ?_, e4, ⟨e1, e2, e3⟩, hM.2.1⟩
  · exact (hg k hk).1
  · obtain ⟨x, -, x1, x2⟩ := (hg k hk).2.1
    rw [x1, x2]
theorem x_dripBits {N n0 w h c : Nat} {SX SM : gS} (D : jDr n0 w h SX SM) (hc : 1 ≤ c) (hb : c ≤ 100) (hN : 8 < N) : fX11_dripBits N (nI c) SX = some (bX n0 w SX (h + c - 1), SX) := by
  obtain ⟨⟨a1, a2, a3⟩, ⟨w1, w2, w3, w4⟩, hd, hp, -, ⟨e1, e2, e3⟩, -⟩ := D
  exact x_dripBits_h rfl a1 a3 (fun k hk => by obtain ⟨d, q1, q2, q3, -⟩ := hd k hk; exact ⟨d, q1, q2, q3⟩) w2 w1 e2 hc (by omega) n0 0 0 N (by omega) (by omega)
theorem wetS_pos {w h : Nat} {r : Nat → Int32} (hr : ∀ i, i < w → ∃ x : Nat, x ≤ 9 ∧ r i = nI x) : 0 ≤ wetS w r h := by
  unfold wetS
  by_cases h0 : w = 0
  · rw [if_pos h0]
    decide
  · rw [if_neg h0]
    obtain ⟨x, x1, x2⟩ := hr (h % w) (Nat.mod_lt _ (by omega))
    rw [x2]
    exact nI_pos' (by omega)
noncomputable def mHr (i j : Nat) : Bool := i == 99 && j == 37
/-- the reference's answer, the HOUR being h' -/
theorem m_dripAt {N n0 w h h' : Nat} {SX SM S : gS} (D : jDr n0 w h SX SM) (s : oSame mHr SM S) (hh : S 99 37 = nI h') (hb : h' < 2 ^ 31) (hN : 8 < N) : fX12_drippingNow N S = some (bX n0 w SX h', S) := by
  obtain ⟨⟨a1, a2, a3⟩, ⟨w1, w2, w3, w4⟩, hd, hp, e4, ⟨e1, e2, e3⟩, e9⟩ := D
  have hv : fX12_wetOf N S = some (wetS w (S 14) h', S) := m_wetOf (by rw [s 5 3 rfl]; exact w3) w1 hb hh (by rw [s 99 41 rfl]; exact e9)
  have ew : wetS w (S 14) h' = wetS w (SX (xtw SX + 9)) h' := wetS_eq (fun i hi => by
    obtain ⟨x, -, x1, x2⟩ := w4 i hi
    rw [s 14 i rfl, x1, x2])
  rw [m_drippingNow (n := n0) (by rw [s 5 0 rfl]; exact a2) a3 (fun k hk => by obtain ⟨d, q1, q2, -, q3⟩ := hd k hk; exact ⟨d, q1, q2, by rw [s 7 k rfl]; exact q3⟩) hv (by
    rw [ew]
    exact wetS_pos (fun i hi => by obtain ⟨x, x0, x1, -⟩ := w4 i hi; exact ⟨x, x0, x1⟩)) hN]
  congr 2
  unfold bX
  refine drB_eq n0 0 0 (fun k _ hk => ?_)
  obtain ⟨d, -, -, q3, q4⟩ := hd k (by omega)
  show drS (S 8 k) (S 7 k) (S 99 37) _ (bt (S 99 38) (nI k)) = _
  rw [s 8 k rfl, s 7 k rfl, s 99 38 rfl, hh, ew, hp k (by omega), q3, q4, e4]
/-- a question begins: the reference packs -/
theorem jDr.on {n0 w h : Nat} {SX SM S1 : gS} (D : jDr n0 w h SX SM) (s01 : ∀ i j, ¬ (i = 46 ∧ 0 ≤ j ∧ j < 0 + 26) → S1 i j = SM i j) : jDr n0 w h SX S1 := by
  obtain ⟨⟨a1, a2, a3⟩, ⟨w1, w2, w3, w4⟩, hd, hp, e4, ⟨e1, e2, e3⟩, e9⟩ := D
  refine ⟨⟨a1, by rw [s01 5 0 (by omega)]; exact a2, a3⟩, ⟨w1, w2, by rw [s01 5 3 (by omega)]; exact w3, fun i hi => by rw [s01 14 i (by omega)]; exact w4 i hi⟩, fun k hk => by rw [s01 7 k (by omega)]; exact hd k hk, fun k hk => by rw [s01 8 k (by omega)]; exact hp k hk, by rw [s01 99 38 (by omega)]; exact e4, ⟨e1, e2, by rw [s01 99 37 (by omega)]; exact e3⟩, by rw [s01 99 41 (by omega)]; exact e9⟩
theorem mHr.mov {S S' : gS} (h : oSame mHr S S') : oSame mMov S S' := fun i j k => h i j (by
  unfold mMov at k
  unfold mHr
  rw [Bool.or_eq_false_iff] at k
  have k2 := k.2
  cases h1 : (i == 99) with
  | false => rfl
  | true =>
    rw [h1, Bool.true_and, Bool.or_eq_false_iff] at k2
    rw [Bool.true_and]
    exact k2.1)
theorem wth_of {x : Int32} {a b : Nat} (ha : a < 2 ^ 31) (hb : b < 2 ^ 31) (h : wth x (nI a) (nI b) = true) : ∃ c : Nat, a ≤ c ∧ c ≤ b ∧ x = nI c := by
  unfold wth at h
  rw [Bool.and_eq_true, decide_eq_true_iff, decide_eq_true_iff] at h
  · have h0 : ¬ x < 0 := fun q => by
      have := nI_pos' ha
      rw [Int32.lt_iff_toInt_lt] at q
      have h1 := h.1
      rw [Int32.le_iff_toInt_le] at h1 this
      have e0 : (0 : Int32).toInt = 0 := rfl
      omega
    obtain ⟨c, hc, rfl⟩ := nI_of2 (x := x) (M := nI b) (n := b) (nI_toInt hb) h0 h.2
    exact ⟨c, (nI_leI ha (by omega)).mp h.1, hc, rfl⟩
theorem in_1_60 {N : Nat} {S : gS} {x : Int32} : fX12_isIn N x.toInt64 1 60 S = some (iv (wth x 1 60), S) := m_isIn (a := 1) (b := 60)
theorem in_0_60 {N : Nat} {S : gS} {x : Int32} : fX12_isIn N x.toInt64 0 60 S = some (iv (wth x 0 60), S) := m_isIn (a := 0) (b := 60)
theorem in_1_20 {N : Nat} {S : gS} {x : Int32} : fX12_isIn N x.toInt64 1 20 S = some (iv (wth x 1 20), S) := m_isIn (a := 1) (b := 20)
theorem in_0_20 {N : Nat} {S : gS} {x : Int32} : fX12_isIn N x.toInt64 0 20 S = some (iv (wth x 0 20), S) := m_isIn (a := 0) (b := 20)
theorem in_0_99 {N : Nat} {S : gS} {x : Int32} : fX12_isIn N x.toInt64 0 99 S = some (iv (wth x 0 99), S) := m_isIn (a := 0) (b := 99)
theorem in_1_100 {N : Nat} {S : gS} {x : Int32} : fX12_isIn N x.toInt64 1 100 S = some (iv (wth x 1 100), S) := m_isIn (a := 1) (b := 100)
theorem in_1_5 {N : Nat} {S : gS} {x : Int32} : fX12_isIn N x.toInt64 1 5 S = some (iv (wth x 1 5), S) := m_isIn (a := 1) (b := 5)
theorem in_0_10 {N : Nat} {S : gS} {x : Int32} : fX12_isIn N x.toInt64 0 10 S = some (iv (wth x 0 10), S) := m_isIn (a := 0) (b := 10)
theorem in_0_2 {N : Nat} {S : gS} {x : Int32} : fX12_isIn N x.toInt64 0 2 S = some (iv (wth x 0 2), S) := m_isIn (a := 0) (b := 2)
theorem in_0_3 {N : Nat} {S : gS} {x : Int32} : fX12_isIn N x.toInt64 0 3 S = some (iv (wth x 0 3), S) := m_isIn (a := 0) (b := 3)
theorem ahead_ix2 {h c : Nat} (hc : 1 ≤ c) : nI h + (nI c - 1) = nI (h + c - 1) := by
  rw [show c = (c - 1) + 1 by omega, nI_pred, nI_add]
  rfl
theorem two_ne : (2 : Nat) ≠ 0 := by decide
theorem one_ne : (1 : Nat) ≠ 0 := by decide
theorem st_dripping : Lw_dripping JJ := by
  intro SX SM x1 hJ
  have hJ1 := hJ.same xSame.rf (code_same SM 0)
  have c0 := code_at SM 0
  obtain ⟨S1, hS1⟩ : ∃ z, z = sU SM 99 4 0 := ⟨_, rfl⟩
  rw [← hS1] at hJ1 c0
  obtain ⟨n0, n1, w, h, hT, hN, D⟩ := hJ1.dr
  have hF : ∀ M, fX12_dripping M x1 SM = if iv (wth x1 1 60) = 0 then fX12_dripping_b17 M S1 else fX12_dripping_b23 M x1 S1 := by
    intro M
    unfold fX12_dripping fX12_dripping_b0
    dsimp only [lt]
    rw [← hS1, bnd_t in_1_60]
  cases hx : wth x1 1 60 with
  | false =>
    refine stp_no (t := 2) (v := 0) (w := 0) (SX' := SX) (SM' := sU S1 99 4 1) 1000 1000 (hJ1.same xSame.rf (code_same S1 1)) (by decide) (Or.inr rfl) ?_ ?_ (code_at S1 1)
    · show fX11_dripping_b0 1000 x1 SX = _
      unfold fX11_dripping_b0
      rw [bnx_x x_needWithin (by rw [hx]; exact two_ne), hx]
      rfl
    · show fX12_dripping 1000 x1 SM = _
      rw [hF, hx]
      rfl
  | true =>
    obtain ⟨c, c1, c2, rfl⟩ := wth_of (a := 1) (b := 60) (by decide) (by decide) hx
    obtain ⟨S2, p1, p2, p3⟩ := m_pack (N := 1000) (nd := 46) (a := 0) (S := S1) (by decide) (by decide) (by decide) (by decide)
    have D2 := D.on p2
    have e37 : S2 99 37 = nI h := D2.2.2.2.2.2.1.2.2
    obtain ⟨S4, u1, u2, u3⟩ := m_unpack (N := 1000) (nd := 46) (a := 0) (S := sU S2 99 37 (nI (h + c - 1))) (by decide) (by decide) (by decide) (by decide)
    have hm : mSame S1 S4 := m_back p3 p2 (mHr.mov (oSame.rf.up rfl)) u2 u3
    refine stp_ok (SX := SX) (SM := SM) (SX' := SX) (SM' := S4) (v := bX n0 w SX (h + c - 1)) 1000 1000 (hJ1.same xSame.rf hm) rfl (Or.inl rfl) ?_ ?_ ?_
    · show fX11_dripping_b0 1000 (nI c) SX = _
      unfold fX11_dripping_b0
      rw [bnx_t x_needWithin (by rw [hx]; rfl), bnd_t (x_dripBits D c1 (by omega) (by decide))]
    · show fX12_dripping 1000 (nI c) SM = _
      rw [hF, hx]
      show fX12_dripping_b23 1000 (nI c) S1 = _
      unfold fX12_dripping_b23
      have p1 : fX12_pack 1000 46 0 S1 = some (0, S2) := p1
      have u1 : fX12_unpack 1000 46 0 (sU S2 99 37 (nI (h + c - 1))) = some (0, S4) := u1
      have hh := D.2.2.2.2.2.1.1
      rw [bnd_t p1]
      dsimp only [lt]
      rw [e37, ahead_ix2 c1, bnd_t (m_dripAt (h' := h + c - 1) D2 (oSame.rf.up rfl) sU_s (by omega) (by decide)), bnd_t u1]
    · rw [u2 99 4 (by omega) (by omega), sU_n (by omega), p2 99 4 (by omega)]
      exact c0
