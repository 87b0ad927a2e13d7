/-! part 31.asmall -/
section
/-! SMALL METHODS of both sides, as maps -/
theorem chk_t {α : Type} {b : Bool} {x : Option α} (h : b = true) : chk b x = x := by subst h; rfl
theorem bnd_t {α β : Type} {x : Option α} {a : α} {f : α → Option β} (h : x = some a) : bnd x f = f a := by subst h; rfl
theorem bnx_t {α : Type} {x : Option (Nat × α × gS)} {a : Nat × α × gS} {f : Nat × α × gS → Option tR} (h : x = some a) (h0 : a.1 = 0) : bnx x f = f a := by subst h; exact if_pos h0
theorem bnx_x {α : Type} {x : Option (Nat × α × gS)} {a : Nat × α × gS} {f : Nat × α × gS → Option tR} (h : x = some a) (h0 : a.1 ≠ 0) : bnx x f = some (a.1, 0, a.2.2) := by subst h; exact if_neg h0
theorem inb_t {k n : Nat} (h : k < n) (hn : n < 2 ^ 31) : inb (nI k) n = true := decide_eq_true (vp_in_nI h hn)
theorem inb_f1 {x : Int32} {n : Nat} (h : x < 0) : inb x n = false := decide_eq_false (fun q => q (Or.inl h))
theorem inb_f2 {x : Int32} {n : Nat} (hn : n < 2 ^ 31) (h : nI n ≤ x) : inb x n = false := by
  refine decide_eq_false (fun q => ?_)
  obtain ⟨j, hj, rfl⟩ := vp_in_of q hn
  exact nI_ge hj hn h
theorem inb_of {x : Int32} {n : Nat} (h : inb x n = true) (hn : n < 2 ^ 31) : ∃ j : Nat, j < n ∧ x = nI j := vp_in_of (inb_vp h) hn
theorem inb_iff {x : Int32} {n : Nat} : inb x n = true ↔ 0 ≤ x.toInt ∧ x.toInt < n := by
  rw [← vp_in_iff]
  exact ⟨inb_vp, fun h => decide_eq_true h⟩
theorem nz_t {n : Nat} (h0 : 0 < n) (h : n < 2 ^ 31) : nz (nI n) = true := decide_eq_true (nI_ne0 h0 h)
noncomputable def iv (b : Bool) : Int32 := if b = true then 1 else 0
theorem iv_0 {b : Bool} : iv b = 0 ↔ b = false := by cases b <;> simp [iv]
theorem zb_iv {b : Bool} : zb (iv b) = true := by cases b <;> rfl
theorem x_isGuild {N T n : Nat} {S : gS} {x : Int32} (h : S T 5 = nI n) (hn : n < 2 ^ 31) : fX9_isGuild N T x S = some (iv (inb x n), S) := by
  unfold fX9_isGuild fX9_isGuild_b0
  rcases pk_ix x hn with h1 | h1 | ⟨j, hj, rfl⟩
  · rw [if_pos h1, inb_f1 h1]
    rfl
  · rw [inb_f2 hn h1]
    by_cases h2 : x < 0
    · rw [if_pos h2]
      rfl
    · rw [if_neg h2]
      unfold fX9_isGuild_b4
      rw [h, if_pos h1]
      rfl
  · rw [inb_t hj hn, if_neg (nI_pos (by omega))]
    unfold fX9_isGuild_b4
    rw [h, if_neg (nI_ge hj hn)]
    rfl
theorem x_isGrotto {N T n : Nat} {S : gS} {x : Int32} (h : S T 0 = nI n) (hn : n < 2 ^ 31) : fX9_isGrotto N T x S = some (iv (inb x n), S) := by
  unfold fX9_isGrotto fX9_isGrotto_b0
  rcases pk_ix x hn with h1 | h1 | ⟨j, hj, rfl⟩
  · rw [if_pos h1, inb_f1 h1]
    rfl
  · rw [inb_f2 hn h1]
    by_cases h2 : x < 0
    · rw [if_pos h2]
      rfl
    · rw [if_neg h2]
      unfold fX9_isGrotto_b4
      rw [h, if_pos h1]
      rfl
  · rw [inb_t hj hn, if_neg (nI_pos (by omega))]
    unfold fX9_isGrotto_b4
    rw [h, if_neg (nI_ge hj hn)]
    rfl
noncomputable def wth (x a b : Int32) : Bool := decide (a ≤ x) && decide (x ≤ b)
theorem nlt_le {a b : Int32} : ¬ a < b ↔ b ≤ a := Int32.not_lt
theorem x_isWithin {N : Nat} {S : gS} {x a b : Int32} : fX11_isWithin N x a b S = some (iv (wth x a b), S) := by
  unfold fX11_isWithin fX11_isWithin_b0 wth
  by_cases h1 : x < a
  · rw [if_pos h1, decide_eq_false (p := a ≤ x) (fun h => nlt_le.mpr h h1)]
    rfl
  · rw [if_neg h1, decide_eq_true (nlt_le.mp h1)]
    unfold fX11_isWithin_b5
    by_cases h2 : b < x
    · rw [if_pos h2, decide_eq_false (p := x ≤ b) (fun h => nlt_le.mpr h h2)]
      rfl
    · rw [if_neg h2, decide_eq_true (nlt_le.mp h2)]
      rfl
theorem cmp_lt {x y : Int64} : lg_cmp x y < 0 ↔ x < y := by
  unfold lg_cmp
  by_cases h1 : x > y
  · rw [if_pos h1]
    exact ⟨fun h => absurd h (by decide), fun h => absurd h1 (Int64.not_lt.mpr (Int64.le_of_lt h))⟩
  · rw [if_neg h1]
    by_cases h2 : x = y
    · rw [if_pos h2]
      exact ⟨fun h => absurd h (by decide), fun h => absurd h (by rw [h2]; exact Int64.lt_irrefl)⟩
    · rw [if_neg h2]
      exact ⟨fun _ => Int64.lt_of_le_of_ne (Int64.not_lt.mp h1) h2, fun _ => by decide⟩
theorem cmp_gt {x y : Int64} : 0 < lg_cmp x y ↔ y < x := by
  unfold lg_cmp
  by_cases h1 : x > y
  · rw [if_pos h1]
    exact ⟨fun _ => h1, fun _ => by decide⟩
  · rw [if_neg h1]
    by_cases h2 : x = y
    · rw [if_pos h2]
      exact ⟨fun h => absurd h (by decide), fun h => absurd h h1⟩
    · rw [if_neg h2]
      exact ⟨fun h => absurd h (by decide), fun h => absurd h h1⟩
theorem i64_lt {a b : Int32} : a.toInt64 < b.toInt64 ↔ a < b := by
  rw [Int64.lt_iff_toInt_lt, Int32.lt_iff_toInt_lt, Int32.toInt_toInt64, Int32.toInt_toInt64]
theorem m_isIn {N : Nat} {S : gS} {x a b : Int32} : fX12_isIn N x.toInt64 a.toInt64 b.toInt64 S = some (iv (wth x a b), S) := by
  unfold fX12_isIn fX12_isIn_b0 wth
  by_cases h1 : x < a
  · rw [if_pos (cmp_lt.mpr (i64_lt.mpr h1)), decide_eq_false (p := a ≤ x) (fun h => nlt_le.mpr h h1)]
    rfl
  · rw [if_neg (fun h => h1 (i64_lt.mp (cmp_lt.mp h))), decide_eq_true (nlt_le.mp h1)]
    unfold fX12_isIn_b6
    by_cases h2 : b < x
    · rw [if_pos (cmp_gt.mpr (i64_lt.mpr h2)), decide_eq_false (p := x ≤ b) (fun h => nlt_le.mpr h h2)]
      rfl
    · rw [if_neg (fun h => h2 (i64_lt.mp (cmp_gt.mp h))), decide_eq_true (nlt_le.mp h2)]
      rfl
theorem m_isIn0 {N : Nat} {S : gS} {x b : Int32} : fX12_isIn N x.toInt64 0 b.toInt64 S = some (iv (wth x 0 b), S) := m_isIn (a := 0)
theorem wth_inb {x : Int32} {n : Nat} (hn : n < 2 ^ 30) : wth x 0 (nI n - 1) = inb x n := by
  have e : (nI n - 1).toInt = (n : Int) - 1 := pk_sub_toInt (a := n) (b := 1) hn (by decide)
  have h : wth x 0 (nI n - 1) = true ↔ inb x n = true := by
    rw [inb_iff]
    unfold wth
    rw [Bool.and_eq_true, decide_eq_true_iff, decide_eq_true_iff, Int32.le_iff_toInt_le, Int32.le_iff_toInt_le, e]
    have e0 : (0 : Int32).toInt = 0 := rfl
    rw [e0]
    omega
  cases h1 : wth x 0 (nI n - 1) with
  | true => exact (h.mp h1).symm
  | false =>
    cases h2 : inb x n with
    | true => rw [h.mpr h2] at h1; cases h1
    | false => rfl
theorem m_isGuild {N n : Nat} {S : gS} {x : Int32} (h : S 5 1 = nI n) (hn : n < 2 ^ 30) : fX12_isGuild N x S = some (iv (inb x n), S) := by
  unfold fX12_isGuild fX12_isGuild_b0
  rw [h, bnd_t m_isIn0, wth_inb hn]
  exact chk_t zb_iv
theorem m_isGrotto {N n : Nat} {S : gS} {x : Int32} (h : S 5 0 = nI n) (hn : n < 2 ^ 30) : fX12_isGrotto N x S = some (iv (inb x n), S) := by
  unfold fX12_isGrotto fX12_isGrotto_b0
  rw [h, bnd_t m_isIn0, wth_inb hn]
  exact chk_t zb_iv
theorem x_needGuild {N n : Nat} {S : gS} {x : Int32} (h : S (xtw S) 5 = nI n) (hn : n < 2 ^ 31) : fX11_needGuild N x S = some (if inb x n = true then 0 else 1, 0, S) := by
  unfold fX11_needGuild fX11_needGuild_b0
  dsimp only [lt]
  rw [bnd_t (x_isGuild h hn)]
  cases inb x n <;> rfl
theorem x_needGrotto {N n : Nat} {S : gS} {x : Int32} (h : S (xtw S) 0 = nI n) (hn : n < 2 ^ 31) : fX11_needGrotto N x S = some (if inb x n = true then 0 else 1, 0, S) := by
  unfold fX11_needGrotto fX11_needGrotto_b0
  dsimp only [lt]
  rw [bnd_t (x_isGrotto h hn)]
  cases inb x n <;> rfl
theorem x_needWhat {N : Nat} {S : gS} {x a : Int32} : fX11_needWhat N x a S = some (if wth x 0 a = true then 0 else 1, 0, S) := by
  unfold fX11_needWhat fX11_needWhat_b0
  rw [bnd_t x_isWithin]
  cases wth x 0 a <;> rfl
theorem x_needWithin {N : Nat} {S : gS} {x a b : Int32} : fX11_needWithin N x a b S = some (if wth x a b = true then 0 else 2, 0, S) := by
  unfold fX11_needWithin fX11_needWithin_b0
  rw [bnd_t x_isWithin]
  cases wth x a b <;> rfl
/-! bits -/
noncomputable def bt (x k : Int32) : Bool := decide (¬ ((x >>> (k &&& 31)) &&& 1 : Int32) = 0)
theorem and1 (x : Int32) : (x &&& 1) = 0 ∨ (x &&& 1) = 1 := by
  obtain ⟨j, hj, e⟩ := vp_in_of (pk_andIn x (m := 1) 1 rfl (by decide)) (by decide)
  rw [e]
  rcases (show j = 0 ∨ j = 1 by omega) with rfl | rfl
  · exact Or.inl rfl
  · exact Or.inr rfl
theorem x_isOneOf {N : Nat} {S : gS} {x k : Int32} : fX11_isOneOf N x k S = some (iv (bt x k), S) := by
  unfold fX11_isOneOf fX11_isOneOf_b0 bt
  by_cases h : ((x >>> (k &&& 31)) &&& 1 : Int32) = 0
  · rw [if_pos h, decide_eq_false (fun q => q h)]
    rfl
  · rw [if_neg h, decide_eq_true h]
    rfl
theorem m_isOf {N : Nat} {S : gS} {x k : Int32} : fX12_isOf N x k S = some (iv (bt x k), S) := by
  unfold fX12_isOf fX12_isOf_b0 bt
  rcases and1 (x >>> (k &&& 31)) with h | h
  · rw [h, decide_eq_false (fun q => q rfl)]
    rfl
  · rw [h, decide_eq_true (by decide)]
    rfl
/-! WET, THE BOUND, what drips -/
noncomputable def wetS (n : Nat) (row : Nat → Int32) (h : Nat) : Int32 := if n = 0 then 5 else row (h % n)
theorem x_wetOf {N T n h : Nat} {S : gS} (hw : S T 10 = nI n) (hn : n ≤ 8) (hh : h < 2 ^ 31) : fX9_wetOf N T (nI h) S = some (wetS n (S (T + 9)) h, S) := by
  unfold fX9_wetOf fX9_wetOf_b0 wetS
  by_cases h0 : n = 0
  · subst h0
    rw [hw]
    rfl
  · have h1 : ¬ nI n < 1 := nI_nlt (a := n) (b := 1) (by omega) (by omega)
    rw [hw, if_neg h1, if_neg h0]
    unfold fX9_wetOf_b8
    rw [if_pos (nI_pos' hh)]
    unfold fX9_wetOf_b16
    have hm : h % n < n := Nat.mod_lt _ (by omega)
    rw [hw, pk_rem hh (by omega) (by omega), chk_t (nz_t (by omega) (by omega)), chk_t (inb_t (by omega) (by decide)), nI_clamp (by omega)]
    rfl
theorem m_wetOf {N n h : Nat} {S : gS} (hw : S 5 3 = nI n) (hn : n ≤ 8) (hh : h < 2 ^ 31) (h37 : S 99 37 = nI h) (h41 : S 99 41 = -1) : fX12_wetOf N S = some (wetS n (S 14) h, S) := by
  unfold fX12_wetOf fX12_wetOf_b0 wetS
  rw [if_pos h41]
  unfold fX12_wetOf_b15
  by_cases h0 : n = 0
  · subst h0
    rw [hw]
    rfl
  · rw [hw, if_neg (nI_ne0 (by omega) (by omega)), if_neg h0]
    unfold fX12_wetOf_b28
    have hm : h % n < n := Nat.mod_lt _ (by omega)
    rw [hw, h37, pk_rem hh (by omega) (by omega), chk_t (nz_t (by omega) (by omega)), chk_t (inb_t (by omega) (by decide)), nI_clamp (by omega)]
    rfl
/-- WET is told ahead (drought, years) -/
theorem m_wetOf2 {N : Nat} {S : gS} (h41 : ¬ S 99 41 = -1) : fX12_wetOf N S = some (S 99 41, S) := by
  unfold fX12_wetOf fX12_wetOf_b0
  rw [if_neg h41]
  rfl
noncomputable def bndS (b : Nat) : Int32 := if b = 0 then 70 else nI b
theorem x_mostSin {N T b : Nat} {S : gS} (h : S T 12 = nI b) (hb : b < 2 ^ 31) : fX9_mostSin N T S = some (bndS b, S) := by
  unfold fX9_mostSin fX9_mostSin_b0 bndS
  have h1 : fX9_isBoundTold N T S = some (if b = 0 then 0 else 1, S) := by
    unfold fX9_isBoundTold fX9_isBoundTold_b0
    by_cases h0 : b = 0
    · subst h0
      rw [h]
      rfl
    · rw [h, if_neg (nI_ne0 (by omega) hb), if_neg h0]
      rfl
  rw [bnd_t h1]
  by_cases h0 : b = 0
  · rw [if_pos h0, if_pos h0]
    rfl
  · rw [if_neg h0, if_neg h0]
    show fX9_mostSin_b7 N T S = _
    unfold fX9_mostSin_b7
    rw [h]
    rfl
end

/-! part 32.acount -/
section
/-! THE FIRST CALLS: fault, forget, count -/
theorem stp_ok {co : Nat → Int32} {ok : Nat → Prop} {SX SM SX' SM' : gS} {v : Int32} {FX : Nat → Option tR} {FM : Nat → Option (Int32 × gS)} (N M : Nat) (hJ : JJ SX' SM') (hco : co 0 = 0) (hok : ok 0) (h1 : FX N = some (0, v, SX')) (h2 : FM M = some (v, SM')) (hc : SM' 99 4 = 0) : StpT JJ co ok FX FM :=
  ⟨N, (0, v, SX'), M, (v, SM'), h1, h2, hok, by rw [hco]; exact hc, fun _ => rfl, hJ⟩
theorem stp_no {co : Nat → Int32} {ok : Nat → Prop} {SX' SM' : gS} {v w : Int32} {FX : Nat → Option tR} {FM : Nat → Option (Int32 × gS)} (N M t : Nat) (hJ : JJ SX' SM') (ht : t ≠ 0) (hok : ok t) (h1 : FX N = some (t, v, SX')) (h2 : FM M = some (w, SM')) (hc : SM' 99 4 = co t) : StpT JJ co ok FX FM :=
  ⟨N, (t, v, SX'), M, (w, SM'), h1, h2, hok, hc, fun h => absurd h ht, hJ⟩
/-- the reference's code is put, all else stays -/
theorem code_same (S : gS) (x : Int32) : mSame S (sU S 99 4 x) := mSame.rf.up rfl
theorem code_at (S : gS) (x : Int32) : sU S 99 4 x 99 4 = x := by rw [sU_ap, if_pos ⟨rfl, rfl⟩]
theorem st_fault : Lw_fault JJ := by
  intro SX SM hJ
  have hJ1 := hJ.same xSame.rf (code_same SM 0)
  refine ⟨0, (SX 1 3, SX), 0, (sU SM 99 4 0 99 29, sU SM 99 4 0), rfl, rfl, ?_, hJ1⟩
  obtain ⟨n0, n1, -, -, -, -, h⟩ := hJ1
  exact h.1
/-! what a call that acts may change -/
def oSame (P : Nat → Nat → Bool) (S S' : gS) : Prop := ∀ i j, P i j = false → S' i j = S i j
theorem oSame.rf {P : Nat → Nat → Bool} {S : gS} : oSame P S S := fun _ _ _ => rfl
theorem oSame.tr {P : Nat → Nat → Bool} {S S' S'' : gS} (h : oSame P S S') (h' : oSame P S' S'') : oSame P S S'' := fun i j k => (h' i j k).trans (h i j k)
theorem oSame.up {P : Nat → Nat → Bool} {S S' : gS} {a b : Nat} {x : Int32} (h : oSame P S S') (hs : P a b = true) : oSame P S (sU S' a b x) := by
  intro i j k
  rw [sU_ap]
  by_cases h2 : i = a ∧ j = b
  · rw [h2.1, h2.2, hs] at k
    cases k
  · rw [if_neg h2]
    exact h i j k
noncomputable def xAct (i j : Nat) : Bool := xScr i j || (21 ≤ i && i ≤ 45) || (i == 0 && j == 8)
noncomputable def mAct (i j : Nat) : Bool := mScr i j || i == 17 || (32 ≤ i && i ≤ 36) || (48 ≤ i && i ≤ 50) || (60 ≤ i && i ≤ 65) || (i == 99 && ((37 ≤ j && j ≤ 40) || (57 ≤ j && j ≤ 59)))
theorem xSame.act {S S' : gS} (h : xSame S S') : oSame xAct S S' := fun i j k => h i j (by
  unfold xAct at k
  rw [Bool.or_eq_false_iff, Bool.or_eq_false_iff] at k
  exact k.1.1)
theorem mSame.act {S S' : gS} (h : mSame S S') : oSame mAct S S' := fun i j k => h i j (by
  unfold mAct at k
  rw [Bool.or_eq_false_iff, Bool.or_eq_false_iff, Bool.or_eq_false_iff, Bool.or_eq_false_iff, Bool.or_eq_false_iff] at k
  exact k.1.1.1.1.1)
theorem jTown.on2 {n0 n1 T : Nat} {SX SM SX' SM' : gS} (h : jTown n0 n1 T SX SM) (hx : ∀ i j, i ≤ 14 → i ≠ 12 → SX' (T + i) j = SX (T + i) j) (m5 : ∀ j, SM' 5 j = SM 5 j) (m6 : ∀ j, SM' 6 j = SM 6 j) (m7 : ∀ j, SM' 7 j = SM 7 j) (m8 : ∀ j, SM' 8 j = SM 8 j) (m9 : ∀ j, SM' 9 j = SM 9 j) (m14 : ∀ j, SM' 14 j = SM 14 j) (m15 : ∀ j, SM' 15 j = SM 15 j) (m16 : ∀ j, SM' 16 j = SM 16 j) (m18 : ∀ j, SM' 18 j = SM 18 j) : jTown n0 n1 T SX' SM' := by
  obtain ⟨⟨a1, a2, a3⟩, ⟨b1, b2, b3⟩, ⟨w, w1, w2, w3, w4⟩, ⟨b, c1, c2, c3⟩, d, g, r1, r2⟩ := h
  have hx0 : ∀ j, SX' T j = SX T j := fun j => hx 0 j (by omega) (by omega)
  refine ⟨⟨by rw [hx0]; exact a1, by rw [m5]; exact a2, a3⟩, ⟨by rw [hx0]; exact b1, by rw [m5]; exact b2, b3⟩, ⟨w, w1, by rw [hx0]; exact w2, by rw [m5]; exact w3, fun i hi => ?_⟩, ⟨b, c1, by rw [hx0]; exact c2, by rw [m5]; exact c3⟩, fun k hk => ?_, fun q hq => ?_, ?_, ?_⟩
  · rw [hx 9 i (by omega) (by omega), m14]
    exact w4 i hi
  · rw [hx 1 k (by omega) (by omega), hx 2 k (by omega) (by omega), hx 3 k (by omega) (by omega), hx 4 k (by omega) (by omega), m7, m8, m9, m6]
    exact d k hk
  · rw [hx 5 q (by omega) (by omega), m18]
    exact g q hq
  · exact r1.on (hx 10 3 (by omega) (by omega)) (funext fun j => hx 11 j (by omega) (by omega)) (m5 4) (funext fun j => m15 j)
  · exact r2.on (hx 13 3 (by omega) (by omega)) (funext fun j => hx 14 j (by omega) (by omega)) (m5 5) (funext fun j => m16 j)
def jPic (n0 n1 : Nat) (SX SM : gS) : Prop := (SX 0 8 = 0 ∧ SM 99 57 = 0) ∨ (SX 0 8 = 1 ∧ SM 99 57 = 1 ∧ jImg n0 n1 SX SM)
/-- a call that acts: the town, the tape and the rest stay; what is so now and the image are to be shown -/
theorem JJ.act {SX SM SX' SM' : gS} (h : JJ SX SM) (x : oSame xAct SX SX') (m : oSame mAct SM SM') (k : ∀ n0 n1, jTown n0 n1 (xtw SX) SX SM → jNow n0 n1 SX SM → jPic n0 n1 SX SM → jNow n0 n1 SX' SM' ∧ jPic n0 n1 SX' SM') : JJ SX' SM' := by
  obtain ⟨n0, n1, h1, h2, h3, h4, h5⟩ := h
  obtain ⟨k1, k2⟩ := k n0 n1 h1 h2 h3
  refine ⟨n0, n1, ?_, k1, k2, ?_, ?_⟩
  · have ht : xtw SX' = xtw SX := by
      unfold xtw
      rw [x 0 7 rfl]
    rw [ht]
    refine h1.on2 (fun i j h1 h2 => x _ _ ?_) (fun j => m 5 j rfl) (fun j => m 6 j rfl) (fun j => m 7 j rfl) (fun j => m 8 j rfl) (fun j => m 9 j rfl) (fun j => m 14 j rfl) (fun j => m 15 j rfl) (fun j => m 16 j rfl) (fun j => m 18 j rfl)
    rcases xtw_cases (S := SX) with hT | hT
    · rw [hT]
      rcases (show i = 0 ∨ i = 1 ∨ i = 2 ∨ i = 3 ∨ i = 4 ∨ i = 5 ∨ i = 6 ∨ i = 7 ∨ i = 8 ∨ i = 9 ∨ i = 10 ∨ i = 11 ∨ i = 13 ∨ i = 14 by omega) with rfl | rfl | rfl | rfl | rfl | rfl | rfl | rfl | rfl | rfl | rfl | rfl | rfl | rfl <;> rfl
    · rw [hT]
      rcases (show i = 0 ∨ i = 1 ∨ i = 2 ∨ i = 3 ∨ i = 4 ∨ i = 5 ∨ i = 6 ∨ i = 7 ∨ i = 8 ∨ i = 9 ∨ i = 10 ∨ i = 11 ∨ i = 13 ∨ i = 14 by omega) with rfl | rfl | rfl | rfl | rfl | rfl | rfl | rfl | rfl | rfl | rfl | rfl | rfl | rfl <;> rfl
  · obtain ⟨n, k1, k2, k3, k4⟩ := h4
    refine ⟨n, k1, by rw [x 2 1 rfl]; exact k2, by rw [m 99 20 rfl]; exact k3, fun i hi => ?_⟩
    rw [x 3 i rfl, m 19 i rfl]
    exact k4 i hi
  · unfold jMisc at h5 ⊢
    rw [x 1 3 rfl, m 99 29 rfl, m 99 41 rfl, x 0 7 rfl, x 1 1 rfl, x 14 2 rfl, x 17 2 rfl, x 82 2 rfl, x 85 2 rfl]
    exact h5
/-- the image stays where its cells do -/
theorem jPic.on {n0 n1 : Nat} {SX SM SX' SM' : gS} (h : jPic n0 n1 SX SM) (x0 : SX' 0 8 = SX 0 8) (x : ∀ i j, 34 ≤ i → i ≤ 45 → SX' i j = SX i j) (m : ∀ i j, 60 ≤ i → i ≤ 65 → SM' i j = SM i j) (m7 : SM' 99 57 = SM 99 57) (m8 : SM' 99 58 = SM 99 58) (m9 : SM' 99 59 = SM 99 59) : jPic n0 n1 SX' SM' := by
  have fm : ∀ i, 60 ≤ i → i ≤ 65 → SM' i = SM i := fun i h1 h2 => funext fun j => m i j h1 h2
  unfold jPic
  rw [x0, m7]
  rcases h with h | ⟨h1, h2, h3⟩
  · exact Or.inl h
  · refine Or.inr ⟨h1, h2, jBook.on h3 (fun i h1 h2 => funext fun j => x _ _ (by omega) (by omega)) (mAc_on (fm 60 (by omega) (by omega))) m8 m9 (fm 61 (by omega) (by omega)) (fm 62 (by omega) (by omega)) (fm 63 (by omega) (by omega)) (fm 64 (by omega) (by omega)) (fm 65 (by omega) (by omega))⟩
theorem st_forget : Lw_forget JJ := by
  intro SX SM hJ
  have hJ1 := hJ.same xSame.rf (code_same SM 0)
  refine ⟨0, (0, sU SX 28 3 0), 0, (0, sU (sU SM 99 4 0) 99 40 0), rfl, rfl, rfl, ?_⟩
  generalize sU SM 99 4 0 = S1 at hJ1 ⊢
  show JJ (sU SX 28 3 0) (sU S1 99 40 0)
  refine hJ1.act (oSame.rf.up rfl) (oSame.rf.up rfl) (fun n0 n1 hT hN hI => ⟨?_, hI.on ?_ (fun i j h1 h2 => ?_) (fun i j h1 h2 => ?_) ?_ ?_ ?_⟩)
  · obtain ⟨s, ⟨a, a1, a2, a3, a4⟩, q, t⟩ := hN
    refine ⟨s.on (fun c g _ hc => ?_) (fun c g h1 hc => ?_), ⟨a, a1, a2, a3, fun i hi => (a4 i hi).on (fun c g _ _ => rfl) (fun c g _ _ => rfl)⟩, ⟨0, by omega, ?_, ?_, fun i h => by omega⟩, fun i hi => ?_⟩
    · unfold xSt
      rw [sU_ap, if_neg (by omega)]
    · unfold mSt
      by_cases h0 : c = 0
      · rw [if_pos h0, if_pos h0, sU_ap, if_neg (by have := h1 h0; omega)]
      · rw [if_neg h0, if_neg h0, sU_ap, if_neg (by omega)]
    · show sU SX 28 3 0 28 3 = nI 0
      rw [sU_ap, if_pos ⟨rfl, rfl⟩]
      rfl
    · rw [sU_ap, if_pos ⟨rfl, rfl⟩]
      rfl
    · show sU SX 28 3 0 32 i = sU S1 99 40 0 17 i
      rw [sU_ap, sU_ap, if_neg (by omega), if_neg (by omega)]
      exact t i hi
  · rw [sU_ap, if_neg (by omega)]
  · rw [sU_ap, if_neg (by omega)]
  · rw [sU_ap, if_neg (by omega)]
  · rw [sU_ap, if_neg (by omega)]
  · rw [sU_ap, if_neg (by omega)]
  · rw [sU_ap, if_neg (by omega)]
noncomputable def sumR (row : Nat → Int32) : Nat → Nat → Int32 → Int32
  | 0, _, acc => acc
  | m + 1, k, acc => sumR row m (k + 1) (acc + row k)
theorem sumR_eq {r r' : Nat → Int32} : ∀ (m k : Nat) (acc : Int32), (∀ i, k ≤ i → i < k + m → r i = r' i) → sumR r m k acc = sumR r' m k acc := by
  intro m
  induction m with
  | zero => intro k acc h; rfl
  | succ m ih =>
    intro k acc h
    show sumR r m (k + 1) (acc + r k) = sumR r' m (k + 1) (acc + r' k)
    rw [h k (Nat.le_refl _) (by omega)]
    exact ih (k + 1) _ (fun i h1 h2 => h i (by omega) (by omega))
theorem x_purses_h {N n k0 k1 : Nat} {S : gS} (hn : S k1 5 = nI n) (h6 : n ≤ 6) : ∀ (m k : Nat) (acc : Int32) (fuel : Nat), k + m = n → m < fuel → fX7_purses_h4 N fuel k0 k1 acc (nI k) S = some (sumR (S (k0 + 2)) m k acc, S) := by
  intro m
  induction m with
  | zero =>
    intro k acc fuel h1 h2
    obtain ⟨f, rfl⟩ : ∃ f, fuel = f + 1 := ⟨fuel - 1, by omega⟩
    show fX7_purses_b4 N _ k0 k1 acc (nI k) S = _
    unfold fX7_purses_b4
    rw [hn, if_pos (nI_le (by omega) (by omega))]
    rfl
  | succ m ih =>
    intro k acc fuel h1 h2
    obtain ⟨f, rfl⟩ : ∃ f, fuel = f + 1 := ⟨fuel - 1, by omega⟩
    show fX7_purses_b4 N _ k0 k1 acc (nI k) S = _
    unfold fX7_purses_b4
    rw [hn, if_neg (nI_ge (by omega) (by omega))]
    unfold fX7_purses_b12
    rw [chk_t (inb_t (by omega) (by decide)), nI_clamp (by omega), nI_1]
    exact ih (k + 1) _ f (by omega) (by omega)
end

/-! part 33.aloops -/
section
/-! loops over the GUILDS that only look -/
noncomputable def hoR (row : Nat → Int32) (x : Int32) : Nat → Nat → Int32
  | 0, _ => -1
  | m + 1, k => if row k = x then nI k else hoR row x m (k + 1)
theorem hoR_eq {r r' : Nat → Int32} {x : Int32} : ∀ (m k : Nat), (∀ i, k ≤ i → i < k + m → r i = r' i) → hoR r x m k = hoR r' x m k := by
  intro m
  induction m with
  | zero => intro k h; rfl
  | succ m ih =>
    intro k h
    show (if r k = x then nI k else hoR r x m (k + 1)) = if r' k = x then nI k else hoR r' x m (k + 1)
    rw [h k (Nat.le_refl _) (by omega), ih (k + 1) (fun i h1 h2 => h i (by omega) (by omega))]
noncomputable def hbR (row : Nat → Int32) : Nat → Nat → Int32 → Int32
  | 0, _, acc => acc
  | m + 1, k, acc => hbR row m (k + 1) (if row k = -1 then acc else acc ||| ((1 : Int32) <<< (row k &&& 31)))
theorem hbR_eq {r r' : Nat → Int32} : ∀ (m k : Nat) (acc : Int32), (∀ i, k ≤ i → i < k + m → r i = r' i) → hbR r m k acc = hbR r' m k acc := by
  intro m
  induction m with
  | zero => intro k acc h; rfl
  | succ m ih =>
    intro k acc h
    show hbR r m (k + 1) _ = hbR r' m (k + 1) _
    rw [h k (Nat.le_refl _) (by omega)]
    exact ih (k + 1) _ (fun i h1 h2 => h i (by omega) (by omega))
section
variable {N n k0 k1 : Nat} {S : gS}
theorem x_sins_h (hn : S k1 5 = nI n) (h6 : n ≤ 6) : ∀ (m k : Nat) (acc : Int32) (fuel : Nat), k + m = n → m < fuel → fX7_sins_h4 N fuel k0 k1 acc (nI k) S = some (sumR (S (k0 + 1)) m k acc, S) := by
  intro m
  induction m with
  | zero =>
    intro k acc fuel h1 h2
    obtain ⟨f, rfl⟩ : ∃ f, fuel = f + 1 := ⟨fuel - 1, by omega⟩
    show fX7_sins_b4 N _ k0 k1 acc (nI k) S = _
    unfold fX7_sins_b4
    rw [hn, if_pos (nI_le (by omega) (by omega))]
    rfl
  | succ m ih =>
    intro k acc fuel h1 h2
    obtain ⟨f, rfl⟩ : ∃ f, fuel = f + 1 := ⟨fuel - 1, by omega⟩
    show fX7_sins_b4 N _ k0 k1 acc (nI k) S = _
    unfold fX7_sins_b4
    rw [hn, if_neg (nI_ge (by omega) (by omega))]
    unfold fX7_sins_b12
    rw [chk_t (inb_t (by omega) (by decide)), nI_clamp (by omega), nI_1]
    exact ih (k + 1) _ f (by omega) (by omega)
theorem m_sumOf_h (hn : S 5 1 = nI n) (h6 : n ≤ 6) (hk : mN k1 = 6) : ∀ (m k : Nat) (acc : Int32) (fuel : Nat), k + m = n → m < fuel → fX12_sumOf_h4 N fuel k1 acc (nI k) S = some (sumR (S k1) m k acc, S) := by
  intro m
  induction m with
  | zero =>
    intro k acc fuel h1 h2
    obtain ⟨f, rfl⟩ : ∃ f, fuel = f + 1 := ⟨fuel - 1, by omega⟩
    show fX12_sumOf_b4 N _ k1 acc (nI k) S = _
    unfold fX12_sumOf_b4
    rw [hn, if_pos (nI_le (by omega) (by omega))]
    rfl
  | succ m ih =>
    intro k acc fuel h1 h2
    obtain ⟨f, rfl⟩ : ∃ f, fuel = f + 1 := ⟨fuel - 1, by omega⟩
    show fX12_sumOf_b4 N _ k1 acc (nI k) S = _
    unfold fX12_sumOf_b4
    rw [hn, if_neg (nI_ge (by omega) (by omega))]
    unfold fX12_sumOf_b14
    rw [hk, chk_t (inb_t (by omega) (by decide)), nI_clamp (by omega), nI_1]
    exact ih (k + 1) _ f (by omega) (by omega)
theorem x_holderOf_h {x : Int32} (hn : S k1 5 = nI n) (h6 : n ≤ 6) : ∀ (m k : Nat) (fuel : Nat), k + m = n → m < fuel → fX7_holderOf_h2 N fuel k0 k1 x (nI k) S = some (hoR (S (k0 + 4)) x m k, S) := by
  intro m
  induction m with
  | zero =>
    intro k fuel h1 h2
    obtain ⟨f, rfl⟩ : ∃ f, fuel = f + 1 := ⟨fuel - 1, by omega⟩
    show fX7_holderOf_b2 N _ k0 k1 x (nI k) S = _
    unfold fX7_holderOf_b2
    rw [hn, if_pos (nI_le (by omega) (by omega))]
    rfl
  | succ m ih =>
    intro k fuel h1 h2
    obtain ⟨f, rfl⟩ : ∃ f, fuel = f + 1 := ⟨fuel - 1, by omega⟩
    show fX7_holderOf_b2 N _ k0 k1 x (nI k) S = _
    unfold fX7_holderOf_b2
    rw [hn, if_neg (nI_ge (by omega) (by omega))]
    unfold fX7_holderOf_b10
    rw [chk_t (inb_t (by omega) (by decide)), nI_clamp (by omega)]
    show _ = some ((if S (k0 + 4) k = x then nI k else hoR (S (k0 + 4)) x m (k + 1)), S)
    by_cases h : S (k0 + 4) k = x
    · rw [if_pos h, if_pos h]
      rfl
    · rw [if_neg h, if_neg h]
      unfold fX7_holderOf_b22
      rw [nI_1]
      exact ih (k + 1) f (by omega) (by omega)
theorem m_hirerOf_h {x : Int32} (hn : S 5 1 = nI n) (h6 : n ≤ 6) : ∀ (m k : Nat) (fuel : Nat), k + m = n → m < fuel → fX12_hirerOf_h2 N fuel x (nI k) S = some (hoR (S 35) x m k, S) := by
  intro m
  induction m with
  | zero =>
    intro k fuel h1 h2
    obtain ⟨f, rfl⟩ : ∃ f, fuel = f + 1 := ⟨fuel - 1, by omega⟩
    show fX12_hirerOf_b2 N _ x (nI k) S = _
    unfold fX12_hirerOf_b2
    rw [hn, if_pos (nI_le (by omega) (by omega))]
    rfl
  | succ m ih =>
    intro k fuel h1 h2
    obtain ⟨f, rfl⟩ : ∃ f, fuel = f + 1 := ⟨fuel - 1, by omega⟩
    show fX12_hirerOf_b2 N _ x (nI k) S = _
    unfold fX12_hirerOf_b2
    rw [hn, if_neg (nI_ge (by omega) (by omega))]
    unfold fX12_hirerOf_b12
    rw [chk_t (inb_t (by omega) (by decide)), nI_clamp (by omega)]
    show _ = some ((if S 35 k = x then nI k else hoR (S 35) x m (k + 1)), S)
    by_cases h : S 35 k = x
    · rw [if_pos h, if_pos h]
      rfl
    · rw [if_neg h, if_neg h]
      unfold fX12_hirerOf_b24
      rw [nI_1]
      exact ih (k + 1) f (by omega) (by omega)
theorem x_hiredBits_h (hn : S k1 5 = nI n) (h6 : n ≤ 6) : ∀ (m k : Nat) (acc : Int32) (fuel : Nat), k + m = n → m < fuel → fX7_hiredBits_h4 N fuel k0 k1 acc (nI k) S = some (hbR (S (k0 + 4)) m k acc, S) := by
  intro m
  induction m with
  | zero =>
    intro k acc fuel h1 h2
    obtain ⟨f, rfl⟩ : ∃ f, fuel = f + 1 := ⟨fuel - 1, by omega⟩
    show fX7_hiredBits_b4 N _ k0 k1 acc (nI k) S = _
    unfold fX7_hiredBits_b4
    rw [hn, if_pos (nI_le (by omega) (by omega))]
    rfl
  | succ m ih =>
    intro k acc fuel h1 h2
    obtain ⟨f, rfl⟩ : ∃ f, fuel = f + 1 := ⟨fuel - 1, by omega⟩
    show fX7_hiredBits_b4 N _ k0 k1 acc (nI k) S = _
    unfold fX7_hiredBits_b4
    rw [hn, if_neg (nI_ge (by omega) (by omega))]
    unfold fX7_hiredBits_b12
    rw [chk_t (inb_t (by omega) (by decide)), nI_clamp (by omega)]
    show _ = some (hbR (S (k0 + 4)) m (k + 1) (if S (k0 + 4) k = -1 then acc else _), S)
    by_cases h : S (k0 + 4) k = -1
    · rw [if_pos h, if_pos h]
      unfold fX7_hiredBits_b33
      rw [nI_1]
      exact ih (k + 1) _ f (by omega) (by omega)
    · rw [if_neg h, if_neg h]
      unfold fX7_hiredBits_b22
      rw [chk_t (inb_t (by omega) (by decide)), nI_clamp (by omega)]
      unfold fX7_hiredBits_b33
      rw [nI_1]
      exact ih (k + 1) _ f (by omega) (by omega)
theorem m_hiredNow_h (hn : S 5 1 = nI n) (h6 : n ≤ 6) : ∀ (m k : Nat) (acc : Int32) (fuel : Nat), k + m = n → m < fuel → fX12_hiredNow_h4 N fuel acc (nI k) S = some (hbR (S 35) m k acc, S) := by
  intro m
  induction m with
  | zero =>
    intro k acc fuel h1 h2
    obtain ⟨f, rfl⟩ : ∃ f, fuel = f + 1 := ⟨fuel - 1, by omega⟩
    show fX12_hiredNow_b4 N _ acc (nI k) S = _
    unfold fX12_hiredNow_b4
    rw [hn, if_pos (nI_le (by omega) (by omega))]
    rfl
  | succ m ih =>
    intro k acc fuel h1 h2
    obtain ⟨f, rfl⟩ : ∃ f, fuel = f + 1 := ⟨fuel - 1, by omega⟩
    show fX12_hiredNow_b4 N _ acc (nI k) S = _
    unfold fX12_hiredNow_b4
    rw [hn, if_neg (nI_ge (by omega) (by omega))]
    unfold fX12_hiredNow_b14
    rw [chk_t (inb_t (by omega) (by decide)), nI_clamp (by omega)]
    show _ = some (hbR (S 35) m (k + 1) (if S 35 k = -1 then acc else _), S)
    by_cases h : S 35 k = -1
    · rw [if_pos h, if_pos h]
      unfold fX12_hiredNow_b25 fX12_hiredNow_b37
      rw [nI_1, Int32.or_zero]
      exact ih (k + 1) _ f (by omega) (by omega)
    · rw [if_neg h, if_neg h]
      unfold fX12_hiredNow_b29
      rw [chk_t (inb_t (by omega) (by decide)), nI_clamp (by omega)]
      unfold fX12_hiredNow_b37
      rw [nI_1]
      exact ih (k + 1) _ f (by omega) (by omega)
theorem x_sins (hn : S k1 5 = nI n) (h6 : n ≤ 6) (hN : 6 < N) : fX7_sins N k0 k1 S = some (sumR (S (k0 + 1)) n 0 0, S) := x_sins_h hn h6 n 0 0 N (by omega) (by omega)
theorem x_purses (hn : S k1 5 = nI n) (h6 : n ≤ 6) (hN : 6 < N) : fX7_purses N k0 k1 S = some (sumR (S (k0 + 2)) n 0 0, S) := x_purses_h hn h6 n 0 0 N (by omega) (by omega)
theorem x_hiredBits (hn : S k1 5 = nI n) (h6 : n ≤ 6) (hN : 6 < N) : fX7_hiredBits N k0 k1 S = some (hbR (S (k0 + 4)) n 0 0, S) := x_hiredBits_h hn h6 n 0 0 N (by omega) (by omega)
theorem x_holderOf {x : Int32} (hn : S k1 5 = nI n) (h6 : n ≤ 6) (hN : 6 < N) : fX7_holderOf N k0 k1 x S = some (hoR (S (k0 + 4)) x n 0, S) := x_holderOf_h hn h6 n 0 N (by omega) (by omega)
theorem m_sumOf (hn : S 5 1 = nI n) (h6 : n ≤ 6) (hk : mN k1 = 6) (hN : 6 < N) : fX12_sumOf N k1 S = some (sumR (S k1) n 0 0, S) := m_sumOf_h hn h6 hk n 0 0 N (by omega) (by omega)
theorem m_hiredNow (hn : S 5 1 = nI n) (h6 : n ≤ 6) (hN : 6 < N) : fX12_hiredNow N S = some (hbR (S 35) n 0 0, S) := m_hiredNow_h hn h6 n 0 0 N (by omega) (by omega)
theorem m_hirerOf {x : Int32} (hn : S 5 1 = nI n) (h6 : n ≤ 6) (hN : 6 < N) : fX12_hirerOf N x S = some (hoR (S 35) x n 0, S) := m_hirerOf_h hn h6 n 0 N (by omega) (by omega)
end
end

/-! part 34.acount -/
section
/-! count -/
theorem wetS_eq {n h : Nat} {r r' : Nat → Int32} (e : ∀ i, i < n → r i = r' i) : wetS n r h = wetS n r' h := by
  unfold wetS
  by_cases h0 : n = 0
  · rw [if_pos h0, if_pos h0]
  · rw [if_neg h0, if_neg h0, e _ (Nat.mod_lt _ (by omega))]
theorem st_count : Lw_count JJ := by
  intro SX SM x1 hJ
  have hJ1 := hJ.same xSame.rf (code_same SM 0)
  have c0 := code_at SM 0
  obtain ⟨S1, hS1⟩ : ∃ z, z = sU SM 99 4 0 := ⟨_, rfl⟩
  rw [← hS1] at hJ1 c0
  obtain ⟨n0, n1, hT, hN, hI, hP, hM⟩ := id hJ1
  obtain ⟨⟨a1, a2, a3⟩, ⟨b1, b2, b3⟩, ⟨w, w1, w2, w3, w4⟩, ⟨b, d1, d2, d3⟩, hg, hgr, r1, r2⟩ := hT
  obtain ⟨⟨⟨h, e1, e2, e3⟩, e4, e5, e6, e7⟩, ⟨a, f1, f2, f3, f4⟩, ⟨q, g1, g2, g3, g4⟩, t⟩ := hN
  obtain ⟨n, p1, p2, p3, p4⟩ := hP
  have e2 : SX 21 0 = nI h := e2
  have e3 : S1 99 37 = nI h := e3
  have e4 : SX 21 1 = S1 99 38 := e4
  have key : ∀ v, fX11_count 1000 x1 SX = some (0, v, SX) → fX12_count 1000 x1 SM = some (v, S1) → StpT JJ lcA okA (fun N => fX11_count N x1 SX) (fun M => fX12_count M x1 SM) := fun v h1 h2 => stp_ok (SX := SX) (SM := SM) 1000 1000 hJ1 rfl (Or.inl rfl) h1 h2 c0
  by_cases h0 : x1 = 0
  · subst h0
    refine key (nI n0) ?_ ?_
    · show fX11_count_b84 1000 SX = _
      unfold fX11_count_b84
      dsimp only [lt]
      rw [a1]
    · show fX12_count_b80 1000 0 (sU SM 99 4 0) = _
      rw [← hS1]
      unfold fX12_count_b80
      show some (S1 5 0, S1) = _
      rw [a2]
  by_cases h1 : x1 = 1
  · subst h1
    refine key (nI n1) ?_ ?_
    · show fX11_count_b92 1000 SX = _
      unfold fX11_count_b92
      dsimp only [lt]
      rw [b1]
    · show fX12_count_b80 1000 1 (sU SM 99 4 0) = _
      rw [← hS1]
      unfold fX12_count_b80
      show some (S1 5 1, S1) = _
      rw [b2]
  by_cases h2 : x1 = 2
  · subst h2
    refine key (nI h) ?_ ?_
    · show fX11_count_b100 1000 SX = _
      unfold fX11_count_b100
      rw [e2]
    · show fX12_count_b87 1000 (sU SM 99 4 0) = _
      rw [← hS1]
      unfold fX12_count_b87
      rw [e3]
  by_cases h3 : x1 = 3
  · subst h3
    refine key (wetS w (SX (xtw SX + 9)) h) ?_ ?_
    · show fX11_count_b105 1000 SX = _
      unfold fX11_count_b105
      dsimp only [lt]
      rw [e2, bnd_t (x_wetOf w2 w1 (by omega))]
    · show fX12_count_b92 1000 (sU SM 99 4 0) = _
      rw [← hS1]
      unfold fX12_count_b92
      rw [bnd_t (m_wetOf w3 w1 (by omega) e3 hM.2.1), wetS_eq (r := S1 14) (r' := SX (xtw SX + 9)) (fun i hi => by obtain ⟨x, -, k1, k2⟩ := w4 i hi; rw [k1, k2])]
  by_cases h4 : x1 = 4
  · subst h4
    refine key (bndS b) ?_ ?_
    · show fX11_count_b117 1000 SX = _
      unfold fX11_count_b117
      dsimp only [lt]
      rw [bnd_t (x_mostSin d2 (by omega))]
    · show fX12_count_b97 1000 (sU SM 99 4 0) = _
      rw [← hS1]
      unfold fX12_count_b97
      rw [d3]
      rfl
  by_cases h5 : x1 = 5
  · subst h5
    refine key (hbR (SX (21 + 4)) n1 0 0) ?_ ?_
    · show fX11_count_b125 1000 SX = _
      unfold fX11_count_b125
      dsimp only [lt]
      rw [bnd_t (x_hiredBits b1 b3 (by omega))]
    · show fX12_count_b104 1000 (sU SM 99 4 0) = _
      rw [← hS1]
      unfold fX12_count_b104
      rw [bnd_t (m_hiredNow b2 b3 (by omega)), hbR_eq (r := S1 35) (r' := SX (21 + 4)) n1 0 0 (fun i _ hi => ((e5 i (by omega)).2.2.2).symm)]
  by_cases h6 : x1 = 6
  · subst h6
    refine key (SX 21 1) ?_ ?_
    · show fX11_count_b134 1000 SX = _
      rfl
    · show fX12_count_b109 1000 (sU SM 99 4 0) = _
      rw [← hS1]
      unfold fX12_count_b109
      rw [e4]
  by_cases h7 : x1 = 7
  · subst h7
    refine key (sumR (SX (21 + 2)) n1 0 0) ?_ ?_
    · show fX11_count_b139 1000 SX = _
      unfold fX11_count_b139
      dsimp only [lt]
      rw [bnd_t (x_purses b1 b3 (by omega))]
    · show fX12_count_b114 1000 (sU SM 99 4 0) = _
      rw [← hS1]
      unfold fX12_count_b114
      rw [bnd_t (m_sumOf b2 b3 rfl (by omega)), sumR_eq (r := S1 33) (r' := SX (21 + 2)) n1 0 0 (fun i _ hi => ((e5 i (by omega)).2.1).symm)]
  by_cases h8 : x1 = 8
  · subst h8
    refine key (sumR (SX (21 + 1)) n1 0 0) ?_ ?_
    · show fX11_count_b148 1000 SX = _
      unfold fX11_count_b148
      dsimp only [lt]
      rw [bnd_t (x_sins b1 b3 (by omega))]
    · show fX12_count_b123 1000 (sU SM 99 4 0) = _
      rw [← hS1]
      unfold fX12_count_b123
      rw [bnd_t (m_sumOf b2 b3 rfl (by omega)), sumR_eq (r := S1 32) (r' := SX (21 + 1)) n1 0 0 (fun i _ hi => ((e5 i (by omega)).1).symm)]
  by_cases h9 : x1 = 9
  · subst h9
    refine key (nI a) ?_ ?_
    · show fX11_count_b157 1000 SX = _
      unfold fX11_count_b157
      rw [show SX 26 1 = nI a from f2]
    · show fX12_count_b132 1000 (sU SM 99 4 0) = _
      rw [← hS1]
      unfold fX12_count_b132
      rw [f3]
  by_cases h10 : x1 = 10
  · subst h10
    refine key (nI q) ?_ ?_
    · show fX11_count_b168 1000 SX = _
      unfold fX11_count_b168
      rw [show SX 28 3 = nI q from g2]
    · show fX12_count_b137 1000 (sU SM 99 4 0) = _
      rw [← hS1]
      unfold fX12_count_b137
      rw [g3]
  by_cases h11 : x1 = 11
  · subst h11
    refine key (nI n) ?_ ?_
    · show fX11_count_b179 1000 SX = _
      unfold fX11_count_b179
      rw [p2]
    · show fX12_count_b142 1000 (sU SM 99 4 0) = _
      rw [← hS1]
      unfold fX12_count_b142
      rw [p3]
  by_cases h12 : x1 = 12
  · subst h12
    refine key (SX 32 0) ?_ ?_
    · show fX11_count_b190 1000 SX = _
      rfl
    · show fX12_count_b147 1000 12 (sU SM 99 4 0) = _
      rw [← hS1]
      unfold fX12_count_b147
      show some (S1 17 0, S1) = _
      rw [← t 0 (by omega)]
  by_cases h13 : x1 = 13
  · subst h13
    refine key (SX 32 1) ?_ ?_
    · show fX11_count_b200 1000 SX = _
      rfl
    · show fX12_count_b147 1000 13 (sU SM 99 4 0) = _
      rw [← hS1]
      unfold fX12_count_b147
      show some (S1 17 1, S1) = _
      rw [← t 1 (by omega)]
  by_cases h14 : x1 = 14
  · subst h14
    refine key (SX 32 2) ?_ ?_
    · show fX11_count_b210 1000 SX = _
      rfl
    · show fX12_count_b147 1000 14 (sU SM 99 4 0) = _
      rw [← hS1]
      unfold fX12_count_b147
      show some (S1 17 2, S1) = _
      rw [← t 2 (by omega)]
  refine stp_no (t := 1) (v := 0) (w := 0) (SX' := SX) (SM' := sU S1 99 4 1) 1000 1000 (hJ1.same xSame.rf (code_same S1 1)) (by decide) (Or.inr rfl) ?_ ?_ (code_at S1 1)
  · show fX11_count_b0 1000 x1 SX = _
    unfold fX11_count_b0
    rw [if_neg h0, if_neg h1, if_neg h2, if_neg h3, if_neg h4, if_neg h5, if_neg h6, if_neg h7, if_neg h8, if_neg h9, if_neg h10, if_neg h11, if_neg h12, if_neg h13, if_neg h14]
    rfl
  · show fX12_count_b0 1000 x1 SM = _
    unfold fX12_count_b0
    dsimp only [lt]
    rw [← hS1]
    rw [if_neg h0, if_neg h1, if_neg h2, if_neg h3, if_neg h4, if_neg h5, if_neg h6, if_neg h7, if_neg h8, if_neg h9, if_neg h10, if_neg h11, if_neg h12, if_neg h13, if_neg h14]
    rfl
end

/-! part 35.apack -/
section
/-! the reference's pack and unpack -/
/-- the row nd holds from a on what is so now in S -/
def pkd (nd a : Nat) (S S' : gS) : Prop :=
  S' nd a = S 99 37 ∧ S' nd (a + 1) = S 99 38 ∧ ∀ g, g < 6 → S' nd (a + 2 + g) = S 32 g ∧ S' nd (a + 8 + g) = S 33 g ∧ S' nd (a + 14 + g) = S 34 g ∧ S' nd (a + 20 + g) = S 35 g
theorem ix2 (a k : Nat) : (nI a + 2) + nI k = nI (a + 2 + k) := by rw [show (2 : Int32) = nI 2 from rfl, nI_add, nI_add]
theorem ix8 (a k : Nat) : ((nI a + 2) + 6) + nI k = nI (a + 8 + k) := by rw [show (2 : Int32) = nI 2 from rfl, show (6 : Int32) = nI 6 from rfl, nI_add, nI_add, nI_add]
theorem ix14 (a k : Nat) : ((nI a + 2) + 12) + nI k = nI (a + 14 + k) := by rw [show (2 : Int32) = nI 2 from rfl, show (12 : Int32) = nI 12 from rfl, nI_add, nI_add, nI_add]
theorem ix20 (a k : Nat) : ((nI a + 2) + 18) + nI k = nI (a + 20 + k) := by rw [show (2 : Int32) = nI 2 from rfl, show (18 : Int32) = nI 18 from rfl, nI_add, nI_add, nI_add]
theorem sU_s {S : gS} {a b : Nat} {x : Int32} : sU S a b x a b = x := by rw [sU_ap, if_pos ⟨rfl, rfl⟩]
theorem sU_n {S : gS} {a b i j : Nat} {x : Int32} (h : ¬ (i = a ∧ j = b)) : sU S a b x i j = S i j := by rw [sU_ap, if_neg h]
theorem m_pack_h {N nd a : Nat} (hnd : nd ≠ 32 ∧ nd ≠ 33 ∧ nd ≠ 34 ∧ nd ≠ 35) (h26 : a + 26 ≤ mN nd) (hm : mN nd < 2 ^ 31) : ∀ (m k fuel : Nat) (S : gS), k + m = 6 → m < fuel →
    ∃ S', fX12_pack_h18 N fuel nd (nI a) (nI k) S = some (0, S') ∧ (∀ i j, ¬ (i = nd ∧ a + 2 ≤ j ∧ j < a + 26) → S' i j = S i j) ∧
      (∀ g, k ≤ g → g < 6 → S' nd (a + 2 + g) = S 32 g ∧ S' nd (a + 8 + g) = S 33 g ∧ S' nd (a + 14 + g) = S 34 g ∧ S' nd (a + 20 + g) = S 35 g) ∧
      (∀ g, g < k → S' nd (a + 2 + g) = S nd (a + 2 + g) ∧ S' nd (a + 8 + g) = S nd (a + 8 + g) ∧ S' nd (a + 14 + g) = S nd (a + 14 + g) ∧ S' nd (a + 20 + g) = S nd (a + 20 + g)) := by
  intro m
  induction m with
  | zero =>
    intro k fuel S h1 h2
    obtain ⟨f, rfl⟩ : ∃ f, fuel = f + 1 := ⟨fuel - 1, by omega⟩
    have hk : k = 6 := by omega
    subst hk
    exact ⟨S, rfl, fun i j _ => rfl, fun g h3 h4 => by omega, fun g _ => ⟨rfl, rfl, rfl, rfl⟩⟩
  | succ m ih =>
    intro k fuel S h1 h2
    obtain ⟨f, rfl⟩ : ∃ f, fuel = f + 1 := ⟨fuel - 1, by omega⟩
    obtain ⟨S', e1, e2, e3, e4⟩ := ih (k + 1) f (sU (sU (sU (sU S nd (a + 2 + k) (S 32 k)) nd (a + 8 + k) (S 33 k)) nd (a + 14 + k) (S 34 k)) nd (a + 20 + k) (S 35 k)) (by omega) (by omega)
    have r32 : ∀ i j, i ≠ nd → sU (sU (sU (sU S nd (a + 2 + k) (S 32 k)) nd (a + 8 + k) (S 33 k)) nd (a + 14 + k) (S 34 k)) nd (a + 20 + k) (S 35 k) i j = S i j := fun i j h => by
      rw [sU_n (by omega), sU_n (by omega), sU_n (by omega), sU_n (by omega)]
    refine ⟨S', ?_, fun i j h => ?_, fun g h3 h4 => ?_, fun g h3 => ?_⟩
    · show fX12_pack_b18 N (fX12_pack_h18 N f) nd (nI a) (nI k) S = _
      unfold fX12_pack_b18
      rw [show (6 : Int32) = nI 6 from rfl, if_neg (nI_ge (by omega) (by omega))]
      unfold fX12_pack_b24
      dsimp only [lt]
      rw [ix2, ix8, ix14, ix20, nI_clamp (n := k) (by omega), nI_clamp (n := a + 2 + k) (by omega), nI_clamp (n := a + 8 + k) (by omega), nI_clamp (n := a + 14 + k) (by omega), nI_clamp (n := a + 20 + k) (by omega), nI_1]
      rw [chk_t (inb_t (by omega) (by omega)), chk_t (inb_t (by omega) hm), chk_t (inb_t (by omega) (by omega)), chk_t (inb_t (by omega) hm), chk_t (inb_t (by omega) (by omega)), chk_t (inb_t (by omega) hm), chk_t (inb_t (by omega) (by omega)), chk_t (inb_t (by omega) hm)]
      rw [sU_n (i := 33) (by omega), sU_n (i := 34) (by omega), sU_n (i := 34) (by omega), sU_n (i := 35) (by omega), sU_n (i := 35) (by omega), sU_n (i := 35) (by omega)]
      exact e1
    · rw [e2 i j h, sU_n (by omega), sU_n (by omega), sU_n (by omega), sU_n (by omega)]
    · by_cases hg : g = k
      · subst hg
        obtain ⟨q1, q2, q3, q4⟩ := e4 g (by omega)
        rw [q1, q2, q3, q4]
        refine ⟨?_, ?_, ?_, sU_s⟩
        · rw [sU_n (by omega), sU_n (by omega), sU_n (by omega), sU_s]
        · rw [sU_n (by omega), sU_n (by omega), sU_s]
        · rw [sU_n (by omega), sU_s]
      · obtain ⟨q1, q2, q3, q4⟩ := e3 g (by omega) h4
        rw [q1, q2, q3, q4, r32 32 g (by omega), r32 33 g (by omega), r32 34 g (by omega), r32 35 g (by omega)]
        exact ⟨rfl, rfl, rfl, rfl⟩
    · obtain ⟨q1, q2, q3, q4⟩ := e4 g (by omega)
      rw [q1, q2, q3, q4]
      refine ⟨?_, ?_, ?_, ?_⟩
      · rw [sU_n (by omega), sU_n (by omega), sU_n (by omega), sU_n (by omega)]
      · rw [sU_n (by omega), sU_n (by omega), sU_n (by omega), sU_n (by omega)]
      · rw [sU_n (by omega), sU_n (by omega), sU_n (by omega), sU_n (by omega)]
      · rw [sU_n (by omega), sU_n (by omega), sU_n (by omega), sU_n (by omega)]
theorem m_pack {N nd a : Nat} {S : gS} (hnd : nd ≠ 32 ∧ nd ≠ 33 ∧ nd ≠ 34 ∧ nd ≠ 35 ∧ nd ≠ 99) (h26 : a + 26 ≤ mN nd) (hm : mN nd < 2 ^ 31) (hN : 6 < N) : ∃ S', fX12_pack N nd (nI a) S = some (0, S') ∧ (∀ i j, ¬ (i = nd ∧ a ≤ j ∧ j < a + 26) → S' i j = S i j) ∧ pkd nd a S S' := by
  obtain ⟨S', e1, e2, e3, -⟩ := m_pack_h (N := N) (a := a) ⟨hnd.1, hnd.2.1, hnd.2.2.1, hnd.2.2.2.1⟩ h26 hm 6 0 N (sU (sU S nd a (S 99 37)) nd (a + 1) (S 99 38)) (by omega) hN
  refine ⟨S', ?_, fun i j h => ?_, ?_, ?_, fun g hg => ?_⟩
  · unfold fX12_pack fX12_pack_b0
    dsimp only [lt]
    rw [nI_1, nI_clamp (n := a) (by omega), nI_clamp (n := a + 1) (by omega), chk_t (inb_t (by omega) hm), chk_t (inb_t (by omega) hm), sU_n (i := 99) (by omega)]
    exact e1
  · rw [e2 i j (by omega), sU_n (by omega), sU_n (by omega)]
  · rw [e2 nd a (by omega), sU_n (by omega), sU_s]
  · rw [e2 nd (a + 1) (by omega), sU_s]
  · obtain ⟨q1, q2, q3, q4⟩ := e3 g (by omega) hg
    rw [q1, q2, q3, q4, sU_n (by omega), sU_n (by omega), sU_n (by omega), sU_n (by omega), sU_n (by omega), sU_n (by omega), sU_n (by omega), sU_n (by omega)]
    exact ⟨rfl, rfl, rfl, rfl⟩
theorem m_unpack_h {N nd a : Nat} (hnd : nd ≠ 32 ∧ nd ≠ 33 ∧ nd ≠ 34 ∧ nd ≠ 35) (h26 : a + 26 ≤ mN nd) (hm : mN nd < 2 ^ 31) : ∀ (m k fuel : Nat) (S : gS), k + m = 6 → m < fuel →
    ∃ S', fX12_unpack_h18 N fuel nd (nI a) (nI k) S = some (0, S') ∧ (∀ i j, ¬ (32 ≤ i ∧ i ≤ 35 ∧ k ≤ j ∧ j < 6) → S' i j = S i j) ∧
      (∀ g, k ≤ g → g < 6 → S' 32 g = S nd (a + 2 + g) ∧ S' 33 g = S nd (a + 8 + g) ∧ S' 34 g = S nd (a + 14 + g) ∧ S' 35 g = S nd (a + 20 + g)) := by
  intro m
  induction m with
  | zero =>
    intro k fuel S h1 h2
    obtain ⟨f, rfl⟩ : ∃ f, fuel = f + 1 := ⟨fuel - 1, by omega⟩
    have hk : k = 6 := by omega
    subst hk
    exact ⟨S, rfl, fun i j _ => rfl, fun g h3 h4 => by omega⟩
  | succ m ih =>
    intro k fuel S h1 h2
    obtain ⟨f, rfl⟩ : ∃ f, fuel = f + 1 := ⟨fuel - 1, by omega⟩
    obtain ⟨S', e1, e2, e3⟩ := ih (k + 1) f (sU (sU (sU (sU S 32 k (S nd (a + 2 + k))) 33 k (S nd (a + 8 + k))) 34 k (S nd (a + 14 + k))) 35 k (S nd (a + 20 + k))) (by omega) (by omega)
    refine ⟨S', ?_, fun i j h => ?_, fun g h3 h4 => ?_⟩
    · show fX12_unpack_b18 N (fX12_unpack_h18 N f) nd (nI a) (nI k) S = _
      unfold fX12_unpack_b18
      rw [show (6 : Int32) = nI 6 from rfl, if_neg (nI_ge (by omega) (by omega))]
      unfold fX12_unpack_b24
      dsimp only [lt]
      rw [ix2, ix8, ix14, ix20, nI_clamp (n := k) (by omega), nI_clamp (n := a + 2 + k) (by omega), nI_clamp (n := a + 8 + k) (by omega), nI_clamp (n := a + 14 + k) (by omega), nI_clamp (n := a + 20 + k) (by omega), nI_1]
      rw [chk_t (inb_t (by omega) hm), chk_t (inb_t (by omega) (by omega)), chk_t (inb_t (by omega) hm), chk_t (inb_t (by omega) (by omega)), chk_t (inb_t (by omega) hm), chk_t (inb_t (by omega) (by omega)), chk_t (inb_t (by omega) hm), chk_t (inb_t (by omega) (by omega))]
      rw [sU_n (i := nd) (j := a + 8 + k) (by omega), sU_n (i := nd) (j := a + 14 + k) (by omega), sU_n (i := nd) (j := a + 14 + k) (by omega), sU_n (i := nd) (j := a + 20 + k) (by omega), sU_n (i := nd) (j := a + 20 + k) (by omega), sU_n (i := nd) (j := a + 20 + k) (by omega)]
      exact e1
    · rw [e2 i j (by omega), sU_n (by omega), sU_n (by omega), sU_n (by omega), sU_n (by omega)]
    · by_cases hg : g = k
      · subst hg
        rw [e2 32 g (by omega), e2 33 g (by omega), e2 34 g (by omega), e2 35 g (by omega)]
        refine ⟨?_, ?_, ?_, sU_s⟩
        · rw [sU_n (by omega), sU_n (by omega), sU_n (by omega), sU_s]
        · rw [sU_n (by omega), sU_n (by omega), sU_s]
        · rw [sU_n (by omega), sU_s]
      · obtain ⟨q1, q2, q3, q4⟩ := e3 g (by omega) h4
        rw [q1, q2, q3, q4]
        refine ⟨?_, ?_, ?_, ?_⟩
        · rw [sU_n (by omega), sU_n (by omega), sU_n (by omega), sU_n (by omega)]
        · rw [sU_n (by omega), sU_n (by omega), sU_n (by omega), sU_n (by omega)]
        · rw [sU_n (by omega), sU_n (by omega), sU_n (by omega), sU_n (by omega)]
        · rw [sU_n (by omega), sU_n (by omega), sU_n (by omega), sU_n (by omega)]
theorem m_unpack {N nd a : Nat} {S : gS} (hnd : nd ≠ 32 ∧ nd ≠ 33 ∧ nd ≠ 34 ∧ nd ≠ 35 ∧ nd ≠ 99) (h26 : a + 26 ≤ mN nd) (hm : mN nd < 2 ^ 31) (hN : 6 < N) : ∃ S', fX12_unpack N nd (nI a) S = some (0, S') ∧ (∀ i j, ¬ (32 ≤ i ∧ i ≤ 35 ∧ j < 6) → ¬ (i = 99 ∧ (j = 37 ∨ j = 38)) → S' i j = S i j) ∧ pkd nd a S' S := by
  obtain ⟨S', e1, e2, e3⟩ := m_unpack_h (N := N) (a := a) ⟨hnd.1, hnd.2.1, hnd.2.2.1, hnd.2.2.2.1⟩ h26 hm 6 0 N (sU (sU S 99 37 (S nd a)) 99 38 (S nd (a + 1))) (by omega) hN
  refine ⟨S', ?_, fun i j h1 h2 => ?_, ?_, ?_, fun g hg => ?_⟩
  · unfold fX12_unpack fX12_unpack_b0
    dsimp only [lt]
    rw [nI_1, nI_clamp (n := a) (by omega), nI_clamp (n := a + 1) (by omega), chk_t (inb_t (by omega) hm), chk_t (inb_t (by omega) hm), sU_n (i := nd) (by omega)]
    exact e1
  · rw [e2 i j (by omega), sU_n (by omega), sU_n (by omega)]
  · rw [e2 99 37 (by omega), sU_n (by omega), sU_s]
  · rw [e2 99 38 (by omega), sU_s]
  · obtain ⟨q1, q2, q3, q4⟩ := e3 g (by omega) hg
    rw [q1, q2, q3, q4, sU_n (by omega), sU_n (by omega), sU_n (by omega), sU_n (by omega), sU_n (by omega), sU_n (by omega), sU_n (by omega), sU_n (by omega)]
    exact ⟨rfl, rfl, rfl, rfl⟩
end

/-! part 36.adrips -/
section
/-! bits (some rows begun from the kit's family of bits, under other names), and what drips -/
noncomputable def bb (x : Int32) (i : Nat) : Bool := x.toBitVec.getLsbD i
theorem bb_ext {x y : Int32} (h : ∀ i, i < 32 → bb x i = bb y i) : x = y := Int32.toBitVec_inj.mp (BitVec.eq_of_getLsbD_eq (fun i hi => h i hi))
theorem bb_or (x y : Int32) (i : Nat) : bb (x ||| y) i = (bb x i || bb y i) := by unfold bb; rw [Int32.toBitVec_or, BitVec.getLsbD_or]
theorem bb_and (x y : Int32) (i : Nat) : bb (x &&& y) i = (bb x i && bb y i) := by unfold bb; rw [Int32.toBitVec_and, BitVec.getLsbD_and]
theorem bb_xor (x y : Int32) (i : Nat) : bb (x ^^^ y) i = (bb x i ^^ bb y i) := by unfold bb; rw [Int32.toBitVec_xor, BitVec.getLsbD_xor]
theorem bb_sl : ∀ n, n < 32 → ((nI n &&& 31).toBitVec.smod 32).toNat = n := by decide +kernel
theorem bb_one : ∀ i, i < 32 → bb 1 i = decide (i = 0) := by decide +kernel
theorem bb_m1 : ∀ i, i < 32 → bb (-1) i = true := by decide +kernel
theorem bb_0 (i : Nat) : bb 0 i = false := by
  unfold bb
  exact BitVec.getLsbD_zero
theorem bb_pow : ∀ n, n < 32 → ∀ i, i < 32 → bb ((1 : Int32) <<< (nI n &&& 31)) i = decide (i = n) := by decide +kernel
theorem bb_sshr (n : Nat) (hn : n < 32) (x : Int32) {i : Nat} (hi : i < 32) : bb (x >>> (nI n &&& 31)) i = if n + i < 32 then bb x (n + i) else bb x 31 := by
  unfold bb
  rw [Int32.toBitVec_shiftRight]
  show (x.toBitVec.sshiftRight ((nI n &&& 31).toBitVec.smod 32).toNat).getLsbD i = _
  rw [bb_sl n hn, BitVec.getLsbD_sshiftRight, BitVec.msb_eq_getLsbD_last]
  simp [hi]
theorem bt_bb {x : Int32} {k : Nat} (hk : k < 32) : bt x (nI k) = bb x k := by
  have h0 : bb ((x >>> (nI k &&& 31)) &&& 1) 0 = bb x k := by
    rw [bb_and, bb_one 0 (by decide), bb_sshr k hk x (by decide), if_pos (by omega)]
    simp
  unfold bt
  rcases and1 (x >>> (nI k &&& 31)) with h | h
  · rw [h] at h0 ⊢
    rw [← h0, bb_0, decide_eq_false (fun q => q rfl)]
  · rw [h] at h0 ⊢
    rw [← h0, decide_eq_true (by decide)]
    rfl
theorem pow_nd {dr : Int32} {k : Nat} (hk : k < 32) : ((1 : Int32) <<< (nI k &&& 31)) &&& (dr ^^^ (-1)) = if bt dr (nI k) = true then 0 else (1 : Int32) <<< (nI k &&& 31) := by
  rw [bt_bb hk]
  refine bb_ext (fun i hi => ?_)
  rw [bb_and, bb_xor, bb_m1 i hi, bb_pow k hk i hi]
  by_cases h : i = k
  · subst h
    cases hb : bb dr i with
    | true => rw [if_pos rfl, bb_0]; simp
    | false => rw [if_neg (by decide), bb_pow i hk i hi]; simp
  · rw [decide_eq_false h, Bool.false_and]
    cases hb : bb dr k with
    | true => rw [if_pos rfl, bb_0]
    | false => rw [if_neg (by decide), bb_pow k hk i hi, decide_eq_false h]
theorem or_and_d (a b c : Int32) : (a ||| b) &&& c = (a &&& c) ||| (b &&& c) := by
  refine bb_ext (fun i hi => ?_)
  rw [bb_and, bb_or, bb_or, bb_and, bb_and, Bool.and_or_distrib_right]
/-- the bits of those with c -/
noncomputable def drB (c : Nat → Bool) : Nat → Nat → Int32 → Int32
  | 0, _, acc => acc
  | m + 1, k, acc => drB c m (k + 1) (if c k = true then acc ||| ((1 : Int32) <<< (nI k &&& 31)) else acc)
theorem drB_eq {c c' : Nat → Bool} : ∀ (m k : Nat) (acc : Int32), (∀ i, k ≤ i → i < k + m → c i = c' i) → drB c m k acc = drB c' m k acc := by
  intro m
  induction m with
  | zero => intro k acc h; rfl
  | succ m ih =>
    intro k acc h
    show drB c m (k + 1) _ = drB c' m (k + 1) _
    rw [h k (Nat.le_refl _) (by omega)]
    exact ih (k + 1) _ (fun i h1 h2 => h i (by omega) (by omega))
theorem drB_no {c : Nat → Bool} : ∀ (m k : Nat) (acc : Int32), (∀ i, k ≤ i → i < k + m → c i = false) → drB c m k acc = acc := by
  intro m
  induction m with
  | zero => intro k acc h; rfl
  | succ m ih =>
    intro k acc h
    show drB c m (k + 1) (if c k = true then _ else acc) = acc
    rw [h k (Nat.le_refl _) (by omega), if_neg (by decide)]
    exact ih (k + 1) _ (fun i h1 h2 => h i (by omega) (by omega))
theorem drB_nd {c : Nat → Bool} {dr : Int32} : ∀ (m k : Nat) (acc : Int32), k + m ≤ 32 → drB c m k acc &&& (dr ^^^ (-1)) = drB (fun i => !bt dr (nI i) && c i) m k (acc &&& (dr ^^^ (-1))) := by
  intro m
  induction m with
  | zero => intro k acc h; rfl
  | succ m ih =>
    intro k acc h
    show drB c m (k + 1) _ &&& _ = drB _ m (k + 1) _
    rw [ih (k + 1) _ (by omega)]
    congr 1
    show ((if c k = true then acc ||| ((1 : Int32) <<< (nI k &&& 31)) else acc) &&& (dr ^^^ (-1))) = if (!bt dr (nI k) && c k) = true then (acc &&& (dr ^^^ (-1))) ||| ((1 : Int32) <<< (nI k &&& 31)) else acc &&& (dr ^^^ (-1))
    by_cases hc : c k = true
    · rw [if_pos hc, or_and_d, pow_nd (by omega)]
      by_cases hb : bt dr (nI k) = true
      · rw [if_pos hb, Int32.or_zero, if_neg (by rw [hb]; simp)]
      · rw [if_neg hb, if_pos (by rw [hc]; simpa using hb)]
    · rw [if_neg hc, if_neg (by simp [hc])]
noncomputable def cmS (ph dr h : Int32) : Bool := decide ((h + ph) - (h + ph) / dr * dr = 0)
theorem x_comesRound {N T n k d : Nat} {S : gS} {h : Int32} (h0 : S T 0 = nI n) (hn : n ≤ 8) (hk : k < n) (hd : S (T + 1) k = nI d) (hd1 : 1 ≤ d) (hd2 : d ≤ 12) : fX9_comesRound N T (nI k) h S = some (iv (cmS (S (T + 2) k) (S (T + 1) k) h), S) := by
  unfold fX9_comesRound fX9_comesRound_b0
  rw [bnd_t (x_isGrotto h0 (by omega)), inb_t hk (by omega)]
  show fX9_comesRound_b8 N T (nI k) h S = _
  unfold fX9_comesRound_b8
  rw [chk_t (inb_t (by omega) (by decide)), nI_clamp (by omega), hd, if_neg (show ¬ nI d < 1 from nI_nlt (a := d) (b := 1) hd1 (by omega))]
  unfold fX9_comesRound_b18
  rw [chk_t (inb_t (by omega) (by decide)), chk_t (inb_t (by omega) (by decide)), nI_clamp (by omega), hd, chk_t (nz_t (by omega) (by omega))]
  unfold cmS
  by_cases h1 : (h + S (T + 2) k) - (h + S (T + 2) k) / nI d * nI d = 0
  · rw [if_pos h1, decide_eq_true h1]
    rfl
  · rw [if_neg h1, decide_eq_false h1]
    rfl
noncomputable def drS (ph dr h w : Int32) (b : Bool) : Bool := decide (¬ w = 0) && (!b && cmS ph dr h)
theorem x_drips {N T n k d : Nat} {S : gS} {h w dr : Int32} (h0 : S T 0 = nI n) (hn : n ≤ 8) (hk : k < n) (hd : S (T + 1) k = nI d) (hd1 : 1 ≤ d) (hd2 : d ≤ 12) : fX9_drips N T (nI k) h w dr S = some (iv (drS (S (T + 2) k) (S (T + 1) k) h w (bt dr (nI k))), S) := by
  unfold fX9_drips fX9_drips_b0 drS
  by_cases hw : w = 0
  · rw [if_pos hw, decide_eq_false (fun q => q hw)]
    rfl
  · rw [if_neg hw, decide_eq_true hw]
    unfold fX9_drips_b4
    rw [bnd_t x_isOneOf]
    cases hb : bt dr (nI k) with
    | true => rfl
    | false =>
      show fX9_drips_b13 N T (nI k) h S = _
      unfold fX9_drips_b13
      rw [bnd_t (x_comesRound h0 hn hk hd hd1 hd2)]
      cases cmS (S (T + 2) k) (S (T + 1) k) h <;> rfl
theorem m_comesAt {N n k d : Nat} {S : gS} {h : Int32} (hn : n ≤ 8) (hk : k < n) (hd : S 7 k = nI d) (hd1 : 1 ≤ d) (hd2 : d ≤ 12) : fX12_comesAt N (nI k) h S = some (iv (cmS (S 8 k) (S 7 k) h), S) := by
  unfold fX12_comesAt fX12_comesAt_b0
  rw [chk_t (inb_t (by omega) (by decide)), chk_t (inb_t (by omega) (by decide)), nI_clamp (by omega), hd, chk_t (nz_t (by omega) (by omega))]
  unfold cmS
  by_cases h1 : (h + S 8 k) - (h + S 8 k) / nI d * nI d = 0
  · rw [if_pos h1, decide_eq_true h1]
    rfl
  · rw [if_neg h1, decide_eq_false h1]
    rfl
theorem m_drip_h {N n : Nat} {S : gS} {v : Int32} (h0 : S 5 0 = nI n) (hn : n ≤ 8) (hd : ∀ k, k < n → ∃ d : Nat, 1 ≤ d ∧ d ≤ 12 ∧ S 7 k = nI d) (hv : fX12_wetOf N S = some (v, S)) (hp : ¬ v ≤ 0) : ∀ (m k : Nat) (acc : Int32) (fuel : Nat), k + m = n → m < fuel → fX12_drippingNow_h4 N fuel acc (nI k) S = some (drB (fun i => cmS (S 8 i) (S 7 i) (S 99 37)) m k acc &&& (S 99 38 ^^^ (-1)), S) := by
  intro m
  induction m with
  | zero =>
    intro k acc fuel h1 h2
    obtain ⟨f, rfl⟩ : ∃ f, fuel = f + 1 := ⟨fuel - 1, by omega⟩
    show fX12_drippingNow_b4 N _ acc (nI k) S = _
    unfold fX12_drippingNow_b4
    rw [h0, if_pos (nI_le (by omega) (by omega))]
    rfl
  | succ m ih =>
    intro k acc fuel h1 h2
    obtain ⟨f, rfl⟩ : ∃ f, fuel = f + 1 := ⟨fuel - 1, by omega⟩
    obtain ⟨d, d1, d2, d3⟩ := hd k (by omega)
    show fX12_drippingNow_b4 N (fX12_drippingNow_h4 N f) acc (nI k) S = _
    unfold fX12_drippingNow_b4
    rw [h0, if_neg (nI_ge (by omega) (by omega))]
    unfold fX12_drippingNow_b14
    rw [bnd_t hv]
    show (if v ≤ 0 then _ else _) = _
    rw [if_neg hp]
    unfold fX12_drippingNow_b21
    rw [bnd_t (m_comesAt hn (by omega) d3 d1 d2)]
    show _ = some (drB (fun i => cmS (S 8 i) (S 7 i) (S 99 37)) m (k + 1) (if cmS (S 8 k) (S 7 k) (S 99 37) = true then acc ||| ((1 : Int32) <<< (nI k &&& 31)) else acc) &&& _, S)
    by_cases hc : cmS (S 8 k) (S 7 k) (S 99 37) = true
    · rw [if_pos hc, hc]
      show fX12_drippingNow_b34 N (fX12_drippingNow_h4 N f) (nI k) acc S = _
      unfold fX12_drippingNow_b34 fX12_drippingNow_b41
      rw [nI_1]
      exact ih (k + 1) _ f (by omega) (by omega)
    · rw [if_neg hc, Bool.not_eq_true _ |>.mp hc]
      show fX12_drippingNow_b40 N (fX12_drippingNow_h4 N f) (nI k) acc S = _
      unfold fX12_drippingNow_b40 fX12_drippingNow_b41
      rw [nI_1, Int32.or_zero]
      exact ih (k + 1) _ f (by omega) (by omega)
/-- what drips in the HOUR that is told: as bits -/
theorem m_drippingNow {N n : Nat} {S : gS} {v : Int32} (h0 : S 5 0 = nI n) (hn : n ≤ 8) (hd : ∀ k, k < n → ∃ d : Nat, 1 ≤ d ∧ d ≤ 12 ∧ S 7 k = nI d) (hv : fX12_wetOf N S = some (v, S)) (hv0 : 0 ≤ v) (hN : 8 < N) : fX12_drippingNow N S = some (drB (fun i => drS (S 8 i) (S 7 i) (S 99 37) v (bt (S 99 38) (nI i))) n 0 0, S) := by
  unfold fX12_drippingNow fX12_drippingNow_b0
  by_cases hp : v ≤ 0
  · have hz : v = 0 := Int32.le_antisymm hp hv0
    rw [drB_no n 0 0 (fun i _ _ => by unfold drS; rw [decide_eq_false (fun q => q hz)]; rfl)]
    obtain ⟨f, rfl⟩ : ∃ f, N = f + 1 := ⟨N - 1, by omega⟩
    show fX12_drippingNow_b4 (f + 1) _ 0 0 S = _
    unfold fX12_drippingNow_b4
    by_cases hn0 : n = 0
    · subst hn0
      rw [h0, if_pos (show nI 0 ≤ 0 by decide)]
      unfold fX12_drippingNow_b49
      rw [Int32.zero_and]
    · rw [h0, if_neg (nI_nle (by omega) (by omega))]
      unfold fX12_drippingNow_b14
      rw [bnd_t hv]
      show (if v ≤ 0 then _ else _) = _
      rw [if_pos hp]
      unfold fX12_drippingNow_b49
      rw [Int32.zero_and]
  · have h := m_drip_h (N := N) h0 hn hd hv hp n 0 0 N (by omega) (by omega)
    rw [drB_nd n 0 0 (by omega), Int32.zero_and] at h
    rw [show (0 : Int32) = nI 0 from rfl] at h ⊢
    rw [h]
    congr 2
    refine drB_eq n 0 _ (fun i _ _ => ?_)
    unfold drS
    have hv9 : ¬ v = 0 := fun q => hp (by rw [q]; decide)
    rw [decide_eq_true hv9]
    rfl
end

/-! part 37.adripq -/
section
/-! questions of what drips: the frame of a question, dripping -/
noncomputable def mMov (i j : Nat) : Bool := (mScr i j && i != 46) || (32 ≤ i && i ≤ 35 && j < 6) || (i == 99 && (j == 37 || j == 38))
theorem mMov_f {i j : Nat} (h : mScr i j = false) (h1 : ¬ (32 ≤ i ∧ i ≤ 35 ∧ j < 6)) (h2 : ¬ (i = 99 ∧ (j = 37 ∨ j = 38))) : mMov i j = false := by
  unfold mMov
  rw [h, Bool.false_and, Bool.false_or]
  have e1 : (decide (32 ≤ i) && decide (i ≤ 35) && decide (j < 6)) = false := by
    cases h3 : (decide (32 ≤ i) && decide (i ≤ 35) && decide (j < 6)) with
    | false => rfl
    | true =>
      rw [Bool.and_eq_true, Bool.and_eq_true, decide_eq_true_iff, decide_eq_true_iff, decide_eq_true_iff] at h3
      exact absurd ⟨h3.1.1, h3.1.2, h3.2⟩ h1
  rw [e1, Bool.false_or]
  cases h3 : (i == 99 && (j == 37 || j == 38)) with
  | false => rfl
  | true =>
    rw [Bool.and_eq_true, Bool.or_eq_true, beq_iff_eq, beq_iff_eq, beq_iff_eq] at h3
    exact absurd h3 h2
/-- a question: packed, gone on, unpacked: all is as it was but the scratch -/
theorem m_back {S0 S1 S2 S3 : gS} (p : pkd 46 0 S0 S1) (s01 : ∀ i j, ¬ (i = 46 ∧ 0 ≤ j ∧ j < 0 + 26) → S1 i j = S0 i j) (s12 : oSame mMov S1 S2) (s23 : ∀ i j, ¬ (32 ≤ i ∧ i ≤ 35 ∧ j < 6) → ¬ (i = 99 ∧ (j = 37 ∨ j = 38)) → S3 i j = S2 i j) (p3 : pkd 46 0 S3 S2) : mSame S0 S3 := by
  have e46 : ∀ j, S2 46 j = S1 46 j := fun j => s12 46 j rfl
  intro i j h
  by_cases h1 : 32 ≤ i ∧ i ≤ 35 ∧ j < 6
  · obtain ⟨q1, q2, q3, q4⟩ := p.2.2 j h1.2.2
    obtain ⟨r1, r2, r3, r4⟩ := p3.2.2 j h1.2.2
    rcases (show i = 32 ∨ i = 33 ∨ i = 34 ∨ i = 35 by omega) with rfl | rfl | rfl | rfl
    · rw [← r1, e46, q1]
    · rw [← r2, e46, q2]
    · rw [← r3, e46, q3]
    · rw [← r4, e46, q4]
  · by_cases h2 : i = 99 ∧ (j = 37 ∨ j = 38)
    · obtain ⟨rfl, rfl | rfl⟩ := h2
      · rw [← p3.1, e46, p.1]
      · rw [← p3.2.1, e46, p.2.1]
    · rw [s23 i j h1 h2, s12 i j (mMov_f h h1 h2), s01 i j (fun q => by rw [q.1] at h; cases h)]
theorem ahead_ix {h c : Nat} (hc : 1 ≤ c) : (nI h + nI c) - 1 = nI (h + c - 1) := by
  rw [nI_add, show h + c = (h + c - 1) + 1 by omega, nI_pred]
  rfl
section
variable {N T n0 w h k c : Nat} {S : gS}
theorem x_dripsAhead (hT : xtw S = T) (h0 : S T 0 = nI n0) (hn : n0 ≤ 8) (hk : k < n0) (hd : ∀ k, k < n0 → ∃ d : Nat, 1 ≤ d ∧ d ≤ 12 ∧ S (T + 1) k = nI d) (hw : S T 10 = nI w) (hw8 : w ≤ 8) (hh : S 21 0 = nI h) (hc : 1 ≤ c) (hb : h + c < 2 ^ 31) :
    fX11_dripsAhead N (nI k) (nI c) S = some (iv (drS (S (T + 2) k) (S (T + 1) k) (nI (h + c - 1)) (wetS w (S (T + 9)) (h + c - 1)) (bt (S 21 1) (nI k))), S) := by
  obtain ⟨d, d1, d2, d3⟩ := hd k hk
  unfold fX11_dripsAhead fX11_dripsAhead_b0
  dsimp only [lt]
  rw [hT, hh, ahead_ix hc, bnd_t (x_wetOf hw hw8 (by omega))]
  dsimp only
  rw [bnd_t (x_drips h0 hn hk d3 d1 d2)]
  exact chk_t zb_iv
theorem x_dripBits_h (hT : xtw S = T) (h0 : S T 0 = nI n0) (hn : n0 ≤ 8) (hd : ∀ k, k < n0 → ∃ d : Nat, 1 ≤ d ∧ d ≤ 12 ∧ S (T + 1) k = nI d) (hw : S T 10 = nI w) (hw8 : w ≤ 8) (hh : S 21 0 = nI h) (hc : 1 ≤ c) (hb : h + c < 2 ^ 31) : ∀ (m k : Nat) (acc : Int32) (fuel : Nat), k + m = n0 → m < fuel →
    fX11_dripBits_h4 N fuel (nI c) acc (nI k) S = some (drB (fun k => drS (S (T + 2) k) (S (T + 1) k) (nI (h + c - 1)) (wetS w (S (T + 9)) (h + c - 1)) (bt (S 21 1) (nI k))) m k acc, S) := by
  intro m
  induction m with
  | zero =>
    intro k acc fuel h1 h2
    obtain ⟨f, rfl⟩ : ∃ f, fuel = f + 1 := ⟨fuel - 1, by omega⟩
    show fX11_dripBits_b4 N _ (nI c) acc (nI k) S = _
    unfold fX11_dripBits_b4
    dsimp only [lt]
    rw [hT, h0, if_pos (nI_le (by omega) (by omega))]
    rfl
  | succ m ih =>
    intro k acc fuel h1 h2
    obtain ⟨f, rfl⟩ : ∃ f, fuel = f + 1 := ⟨fuel - 1, by omega⟩
    show fX11_dripBits_b4 N (fX11_dripBits_h4 N f) (nI c) acc (nI k) S = _
    unfold fX11_dripBits_b4
    dsimp only [lt]
    rw [hT, h0, if_neg (nI_ge (by omega) (by omega))]
    unfold fX11_dripBits_b15
    rw [bnd_t (x_dripsAhead hT h0 hn (by omega) hd hw hw8 hh hc hb)]
    show _ = some (drB (fun k => drS (S (T + 2) k) (S (T + 1) k) (nI (h + c - 1)) (wetS w (S (T + 9)) (h + c - 1)) (bt (S 21 1) (nI k))) m (k + 1) (if drS (S (T + 2) k) (S (T + 1) k) (nI (h + c - 1)) (wetS w (S (T + 9)) (h + c - 1)) (bt (S 21 1) (nI k)) = true then acc ||| ((1 : Int32) <<< (nI k &&& 31)) else acc), S)
    by_cases hx : drS (S (T + 2) k) (S (T + 1) k) (nI (h + c - 1)) (wetS w (S (T + 9)) (h + c - 1)) (bt (S 21 1) (nI k)) = true
    · rw [if_pos hx, hx]
      show fX11_dripBits_b24 N (fX11_dripBits_h4 N f) (nI c) acc (nI k) S = _
      unfold fX11_dripBits_b24 fX11_dripBits_b30
      rw [nI_1]
      exact ih (k + 1) _ f (by omega) (by omega)
    · rw [if_neg hx, Bool.not_eq_true _ |>.mp hx]
      show fX11_dripBits_b30 N (fX11_dripBits_h4 N f) (nI c) acc (nI k) S = _
      unfold fX11_dripBits_b30
      rw [nI_1]
      exact ih (k + 1) _ f (by omega) (by omega)
end
/-- what drips in HOUR h, by the class's rows -/
noncomputable def bX (n0 w : Nat) (SX : gS) (h : Nat) : Int32 := drB (fun k => drS (SX (xtw SX + 2) k) (SX (xtw SX + 1) k) (nI h) (wetS w (SX (xtw SX + 9)) h) (bt (SX 21 1) (nI k))) n0 0 0
/-- what both sides know of the town for this -/
def jDr (n0 w h : Nat) (SX SM : gS) : Prop :=
  (SX (xtw SX) 0 = nI n0 ∧ SM 5 0 = nI n0 ∧ n0 ≤ 8) ∧ (w ≤ 8 ∧ SX (xtw SX) 10 = nI w ∧ SM 5 3 = nI w ∧ ∀ i, i < w → ∃ x : Nat, x ≤ 9 ∧ SX (xtw SX + 9) i = nI x ∧ SM 14 i = nI x) ∧
  (∀ k, k < n0 → ∃ d : Nat, 1 ≤ d ∧ d ≤ 12 ∧ SX (xtw SX + 1) k = nI d ∧ SM 7 k = nI d) ∧ (∀ k, k < n0 → SX (xtw SX + 2) k = SM 8 k) ∧ SX 21 1 = SM 99 38 ∧ (h ≤ 999 ∧ SX 21 0 = nI h ∧ SM 99 37 = nI h) ∧ SM 99 41 = -1
theorem JJ.dr {SX SM : gS} (hJ : JJ SX SM) : ∃ n0 n1 w h : Nat, jTown n0 n1 (xtw SX) SX SM ∧ jNow n0 n1 SX SM ∧ jDr n0 w h SX SM := by
  obtain ⟨n0, n1, hT, hN, hI, hP, hM⟩ := hJ
  have hT' := hT
  have hN' := hN
  obtain ⟨⟨a1, a2, a3⟩, ⟨b1, b2, b3⟩, ⟨w, w1, w2, w3, w4⟩, ⟨b, d1, d2, d3⟩, hg, hgr, r1, r2⟩ := hT
  obtain ⟨⟨⟨h, e1, e2, e3⟩, e4, e5, e6, e7⟩, -⟩ := hN
  refine ⟨n0, n1, w, h, hT', hN', ⟨a1, a2, a3⟩, ⟨w1, w2, w3, w4⟩, fun k hk => ?_, fun k hk => ?_, e4, ⟨e1, e2, e3⟩, hM.2.1⟩
  · exact (hg k hk).1
  · obtain ⟨x, -, x1, x2⟩ := (hg k hk).2.1
    rw [x1, x2]
theorem x_dripBits {N n0 w h c : Nat} {SX SM : gS} (D : jDr n0 w h SX SM) (hc : 1 ≤ c) (hb : c ≤ 100) (hN : 8 < N) : fX11_dripBits N (nI c) SX = some (bX n0 w SX (h + c - 1), SX) := by
  obtain ⟨⟨a1, a2, a3⟩, ⟨w1, w2, w3, w4⟩, hd, hp, -, ⟨e1, e2, e3⟩, -⟩ := D
  exact x_dripBits_h rfl a1 a3 (fun k hk => by obtain ⟨d, q1, q2, q3, -⟩ := hd k hk; exact ⟨d, q1, q2, q3⟩) w2 w1 e2 hc (by omega) n0 0 0 N (by omega) (by omega)
theorem wetS_pos {w h : Nat} {r : Nat → Int32} (hr : ∀ i, i < w → ∃ x : Nat, x ≤ 9 ∧ r i = nI x) : 0 ≤ wetS w r h := by
  unfold wetS
  by_cases h0 : w = 0
  · rw [if_pos h0]
    decide
  · rw [if_neg h0]
    obtain ⟨x, x1, x2⟩ := hr (h % w) (Nat.mod_lt _ (by omega))
    rw [x2]
    exact nI_pos' (by omega)
noncomputable def mHr (i j : Nat) : Bool := i == 99 && j == 37
/-- the reference's answer, the HOUR being h' -/
theorem m_dripAt {N n0 w h h' : Nat} {SX SM S : gS} (D : jDr n0 w h SX SM) (s : oSame mHr SM S) (hh : S 99 37 = nI h') (hb : h' < 2 ^ 31) (hN : 8 < N) : fX12_drippingNow N S = some (bX n0 w SX h', S) := by
  obtain ⟨⟨a1, a2, a3⟩, ⟨w1, w2, w3, w4⟩, hd, hp, e4, ⟨e1, e2, e3⟩, e9⟩ := D
  have hv : fX12_wetOf N S = some (wetS w (S 14) h', S) := m_wetOf (by rw [s 5 3 rfl]; exact w3) w1 hb hh (by rw [s 99 41 rfl]; exact e9)
  have ew : wetS w (S 14) h' = wetS w (SX (xtw SX + 9)) h' := wetS_eq (fun i hi => by
    obtain ⟨x, -, x1, x2⟩ := w4 i hi
    rw [s 14 i rfl, x1, x2])
  rw [m_drippingNow (n := n0) (by rw [s 5 0 rfl]; exact a2) a3 (fun k hk => by obtain ⟨d, q1, q2, -, q3⟩ := hd k hk; exact ⟨d, q1, q2, by rw [s 7 k rfl]; exact q3⟩) hv (by
    rw [ew]
    exact wetS_pos (fun i hi => by obtain ⟨x, x0, x1, -⟩ := w4 i hi; exact ⟨x, x0, x1⟩)) hN]
  congr 2
  unfold bX
  refine drB_eq n0 0 0 (fun k _ hk => ?_)
  obtain ⟨d, -, -, q3, q4⟩ := hd k (by omega)
  show drS (S 8 k) (S 7 k) (S 99 37) _ (bt (S 99 38) (nI k)) = _
  rw [s 8 k rfl, s 7 k rfl, s 99 38 rfl, hh, ew, hp k (by omega), q3, q4, e4]
/-- a question begins: the reference packs -/
theorem jDr.on {n0 w h : Nat} {SX SM S1 : gS} (D : jDr n0 w h SX SM) (s01 : ∀ i j, ¬ (i = 46 ∧ 0 ≤ j ∧ j < 0 + 26) → S1 i j = SM i j) : jDr n0 w h SX S1 := by
  obtain ⟨⟨a1, a2, a3⟩, ⟨w1, w2, w3, w4⟩, hd, hp, e4, ⟨e1, e2, e3⟩, e9⟩ := D
  refine ⟨⟨a1, by rw [s01 5 0 (by omega)]; exact a2, a3⟩, ⟨w1, w2, by rw [s01 5 3 (by omega)]; exact w3, fun i hi => by rw [s01 14 i (by omega)]; exact w4 i hi⟩, fun k hk => by rw [s01 7 k (by omega)]; exact hd k hk, fun k hk => by rw [s01 8 k (by omega)]; exact hp k hk, by rw [s01 99 38 (by omega)]; exact e4, ⟨e1, e2, by rw [s01 99 37 (by omega)]; exact e3⟩, by rw [s01 99 41 (by omega)]; exact e9⟩
theorem mHr.mov {S S' : gS} (h : oSame mHr S S') : oSame mMov S S' := fun i j k => h i j (by
  unfold mMov at k
  unfold mHr
  rw [Bool.or_eq_false_iff] at k
  have k2 := k.2
  cases h1 : (i == 99) with
  | false => rfl
  | true =>
    rw [h1, Bool.true_and, Bool.or_eq_false_iff] at k2
    rw [Bool.true_and]
    exact k2.1)
theorem wth_of {x : Int32} {a b : Nat} (ha : a < 2 ^ 31) (hb : b < 2 ^ 31) (h : wth x (nI a) (nI b) = true) : ∃ c : Nat, a ≤ c ∧ c ≤ b ∧ x = nI c := by
  unfold wth at h
  rw [Bool.and_eq_true, decide_eq_true_iff, decide_eq_true_iff] at h
  · have h0 : ¬ x < 0 := fun q => by
      have := nI_pos' ha
      rw [Int32.lt_iff_toInt_lt] at q
      have h1 := h.1
      rw [Int32.le_iff_toInt_le] at h1 this
      have e0 : (0 : Int32).toInt = 0 := rfl
      omega
    obtain ⟨c, hc, rfl⟩ := nI_of2 (x := x) (M := nI b) (n := b) (nI_toInt hb) h0 h.2
    exact ⟨c, (nI_leI ha (by omega)).mp h.1, hc, rfl⟩
theorem in_1_60 {N : Nat} {S : gS} {x : Int32} : fX12_isIn N x.toInt64 1 60 S = some (iv (wth x 1 60), S) := m_isIn (a := 1) (b := 60)
theorem in_0_60 {N : Nat} {S : gS} {x : Int32} : fX12_isIn N x.toInt64 0 60 S = some (iv (wth x 0 60), S) := m_isIn (a := 0) (b := 60)
theorem in_1_20 {N : Nat} {S : gS} {x : Int32} : fX12_isIn N x.toInt64 1 20 S = some (iv (wth x 1 20), S) := m_isIn (a := 1) (b := 20)
theorem in_0_20 {N : Nat} {S : gS} {x : Int32} : fX12_isIn N x.toInt64 0 20 S = some (iv (wth x 0 20), S) := m_isIn (a := 0) (b := 20)
theorem in_0_99 {N : Nat} {S : gS} {x : Int32} : fX12_isIn N x.toInt64 0 99 S = some (iv (wth x 0 99), S) := m_isIn (a := 0) (b := 99)
theorem in_1_100 {N : Nat} {S : gS} {x : Int32} : fX12_isIn N x.toInt64 1 100 S = some (iv (wth x 1 100), S) := m_isIn (a := 1) (b := 100)
theorem in_1_5 {N : Nat} {S : gS} {x : Int32} : fX12_isIn N x.toInt64 1 5 S = some (iv (wth x 1 5), S) := m_isIn (a := 1) (b := 5)
theorem in_0_10 {N : Nat} {S : gS} {x : Int32} : fX12_isIn N x.toInt64 0 10 S = some (iv (wth x 0 10), S) := m_isIn (a := 0) (b := 10)
theorem in_0_2 {N : Nat} {S : gS} {x : Int32} : fX12_isIn N x.toInt64 0 2 S = some (iv (wth x 0 2), S) := m_isIn (a := 0) (b := 2)
theorem in_0_3 {N : Nat} {S : gS} {x : Int32} : fX12_isIn N x.toInt64 0 3 S = some (iv (wth x 0 3), S) := m_isIn (a := 0) (b := 3)
theorem ahead_ix2 {h c : Nat} (hc : 1 ≤ c) : nI h + (nI c - 1) = nI (h + c - 1) := by
  rw [show c = (c - 1) + 1 by omega, nI_pred, nI_add]
  rfl
theorem two_ne : (2 : Nat) ≠ 0 := by decide
theorem one_ne : (1 : Nat) ≠ 0 := by decide
theorem st_dripping : Lw_dripping JJ := by
  intro SX SM x1 hJ
  have hJ1 := hJ.same xSame.rf (code_same SM 0)
  have c0 := code_at SM 0
  obtain ⟨S1, hS1⟩ : ∃ z, z = sU SM 99 4 0 := ⟨_, rfl⟩
  rw [← hS1] at hJ1 c0
  obtain ⟨n0, n1, w, h, hT, hN, D⟩ := hJ1.dr
  have hF : ∀ M, fX12_dripping M x1 SM = if iv (wth x1 1 60) = 0 then fX12_dripping_b17 M S1 else fX12_dripping_b23 M x1 S1 := by
    intro M
    unfold fX12_dripping fX12_dripping_b0
    dsimp only [lt]
    rw [← hS1, bnd_t in_1_60]
  cases hx : wth x1 1 60 with
  | false =>
    refine stp_no (t := 2) (v := 0) (w := 0) (SX' := SX) (SM' := sU S1 99 4 1) 1000 1000 (hJ1.same xSame.rf (code_same S1 1)) (by decide) (Or.inr rfl) ?_ ?_ (code_at S1 1)
    · show fX11_dripping_b0 1000 x1 SX = _
      unfold fX11_dripping_b0
      rw [bnx_x x_needWithin (by rw [hx]; exact two_ne), hx]
      rfl
    · show fX12_dripping 1000 x1 SM = _
      rw [hF, hx]
      rfl
  | true =>
    obtain ⟨c, c1, c2, rfl⟩ := wth_of (a := 1) (b := 60) (by decide) (by decide) hx
    obtain ⟨S2, p1, p2, p3⟩ := m_pack (N := 1000) (nd := 46) (a := 0) (S := S1) (by decide) (by decide) (by decide) (by decide)
    have D2 := D.on p2
    have e37 : S2 99 37 = nI h := D2.2.2.2.2.2.1.2.2
    obtain ⟨S4, u1, u2, u3⟩ := m_unpack (N := 1000) (nd := 46) (a := 0) (S := sU S2 99 37 (nI (h + c - 1))) (by decide) (by decide) (by decide) (by decide)
    have hm : mSame S1 S4 := m_back p3 p2 (mHr.mov (oSame.rf.up rfl)) u2 u3
    refine stp_ok (SX := SX) (SM := SM) (SX' := SX) (SM' := S4) (v := bX n0 w SX (h + c - 1)) 1000 1000 (hJ1.same xSame.rf hm) rfl (Or.inl rfl) ?_ ?_ ?_
    · show fX11_dripping_b0 1000 (nI c) SX = _
      unfold fX11_dripping_b0
      rw [bnx_t x_needWithin (by rw [hx]; rfl), bnd_t (x_dripBits D c1 (by omega) (by decide))]
    · show fX12_dripping 1000 (nI c) SM = _
      rw [hF, hx]
      show fX12_dripping_b23 1000 (nI c) S1 = _
      unfold fX12_dripping_b23
      have p1 : fX12_pack 1000 46 0 S1 = some (0, S2) := p1
      have u1 : fX12_unpack 1000 46 0 (sU S2 99 37 (nI (h + c - 1))) = some (0, S4) := u1
      have hh := D.2.2.2.2.2.1.1
      rw [bnd_t p1]
      dsimp only [lt]
      rw [e37, ahead_ix2 c1, bnd_t (m_dripAt (h' := h + c - 1) D2 (oSame.rf.up rfl) sU_s (by omega) (by decide)), bnd_t u1]
    · rw [u2 99 4 (by omega) (by omega), sU_n (by omega), p2 99 4 (by omega)]
      exact c0
end

/-! part 38.ahush -/
section
/-! hush, often, grotto -/
theorem q_begin {n0 w h : Nat} {SX S1 : gS} (D : jDr n0 w h SX S1) (c0 : S1 99 4 = 0) : ∃ S2, fX12_pack 1000 46 0 S1 = some (0, S2) ∧ jDr n0 w h SX S2 ∧ ∀ S, oSame mHr S2 S → ∃ S4, fX12_unpack 1000 46 0 S = some (0, S4) ∧ mSame S1 S4 ∧ S4 99 4 = 0 := by
  obtain ⟨S2, p1, p2, p3⟩ := m_pack (N := 1000) (nd := 46) (a := 0) (S := S1) (by decide) (by decide) (by decide) (by decide)
  refine ⟨S2, p1, D.on p2, fun S s => ?_⟩
  obtain ⟨S4, u1, u2, u3⟩ := m_unpack (N := 1000) (nd := 46) (a := 0) (S := S) (by decide) (by decide) (by decide) (by decide)
  refine ⟨S4, u1, m_back p3 p2 (mHr.mov s) u2 u3, ?_⟩
  rw [u2 99 4 (by omega) (by omega), s 99 4 rfl, p2 99 4 (by omega)]
  exact c0
noncomputable def huR (b : Nat → Int32) : Nat → Nat → Int32 → Int32 → Int32
  | 0, _, _, lo => lo
  | m + 1, k, row, lo => huR b m (k + 1) (if b k = 0 then row + 1 else 0) (if lo < (if b k = 0 then row + 1 else 0) then (if b k = 0 then row + 1 else 0) else lo)
theorem x_hush_h {n0 w h n : Nat} {SX SM : gS} (D : jDr n0 w h SX SM) (hn : n ≤ 60) : ∀ (m k : Nat) (row lo : Int32) (fuel : Nat), k + m = n → m < fuel → fX11_hush_h14 1000 fuel (nI n) lo row (nI (k + 1)) SX = some (0, huR (fun i => bX n0 w SX (h + i)) m k row lo, SX) := by
  intro m
  induction m with
  | zero =>
    intro k row lo fuel h1 h2
    obtain ⟨f, rfl⟩ : ∃ f, fuel = f + 1 := ⟨fuel - 1, by omega⟩
    show fX11_hush_b14 1000 _ (nI n) lo row (nI (k + 1)) SX = _
    unfold fX11_hush_b14
    rw [if_pos (nI_lt (by omega) (by omega))]
    rfl
  | succ m ih =>
    intro k row lo fuel h1 h2
    obtain ⟨f, rfl⟩ : ∃ f, fuel = f + 1 := ⟨fuel - 1, by omega⟩
    show fX11_hush_b14 1000 (fX11_hush_h14 1000 f) (nI n) lo row (nI (k + 1)) SX = _
    unfold fX11_hush_b14
    rw [if_neg (nI_nlt (by omega) (by omega))]
    unfold fX11_hush_b20
    rw [bnd_t (x_dripBits D (by omega) (by omega) (by decide))]
    show (if bX n0 w SX (h + k) = 0 then _ else _) = _
    show _ = some (0, huR (fun i => bX n0 w SX (h + i)) m (k + 1) (if bX n0 w SX (h + k) = 0 then row + 1 else 0) (if lo < (if bX n0 w SX (h + k) = 0 then row + 1 else 0) then (if bX n0 w SX (h + k) = 0 then row + 1 else 0) else lo), SX)
    by_cases hb : bX n0 w SX (h + k) = 0
    · rw [if_pos hb, if_pos hb]
      unfold fX11_hush_b29 fX11_hush_b36
      rw [nI_1]
      exact ih (k + 1) _ _ f (by omega) (by omega)
    · rw [if_neg hb, if_neg hb]
      unfold fX11_hush_b35 fX11_hush_b36
      rw [nI_1]
      exact ih (k + 1) _ _ f (by omega) (by omega)
theorem m_hush_h {n0 w h n : Nat} {SX S1 S2 : gS} (D : jDr n0 w h SX S2) (hn : n ≤ 60) (E : ∀ S, oSame mHr S2 S → ∃ S4, fX12_unpack 1000 46 0 S = some (0, S4) ∧ mSame S1 S4 ∧ S4 99 4 = 0) : ∀ (m k : Nat) (row lo : Int32) (fuel : Nat) (S : gS), k + m = n → m < fuel → oSame mHr S2 S → S 99 37 = nI (h + k) →
    ∃ S4, fX12_hush_h39 1000 fuel (nI n) row lo (nI k) S = some (huR (fun i => bX n0 w SX (h + i)) m k row lo, S4) ∧ mSame S1 S4 ∧ S4 99 4 = 0 := by
  have h9 := D.2.2.2.2.2.1.1
  intro m
  induction m with
  | zero =>
    intro k row lo fuel S h1 h2 s hh
    obtain ⟨f, rfl⟩ : ∃ f, fuel = f + 1 := ⟨fuel - 1, by omega⟩
    obtain ⟨S4, u1, u2, u3⟩ := E S s
    refine ⟨S4, ?_, u2, u3⟩
    show fX12_hush_b39 1000 _ (nI n) row lo (nI k) S = _
    unfold fX12_hush_b39
    rw [if_pos (nI_le (by omega) (by omega))]
    unfold fX12_hush_b82
    rw [bnd_t u1]
    rfl
  | succ m ih =>
    intro k row lo fuel S h1 h2 s hh
    obtain ⟨f, rfl⟩ : ∃ f, fuel = f + 1 := ⟨fuel - 1, by omega⟩
    obtain ⟨S4, u1, u2, u3⟩ := ih (k + 1) (if bX n0 w SX (h + k) = 0 then row + 1 else 0) (if lo < (if bX n0 w SX (h + k) = 0 then row + 1 else 0) then (if bX n0 w SX (h + k) = 0 then row + 1 else 0) else lo) f (sU S 99 37 (nI (h + k) + 1)) (by omega) (by omega) (s.up rfl) (by rw [sU_s, nI_1]; rfl)
    refine ⟨S4, ?_, u2, u3⟩
    show fX12_hush_b39 1000 (fX12_hush_h39 1000 f) (nI n) row lo (nI k) S = some (huR (fun i => bX n0 w SX (h + i)) m (k + 1) _ _, S4)
    unfold fX12_hush_b39
    rw [if_neg (nI_ge (by omega) (by omega))]
    unfold fX12_hush_b45
    rw [bnd_t (m_dripAt D s hh (by omega) (by decide))]
    show (if bX n0 w SX (h + k) = 0 then _ else _) = _
    rw [← u1]
    by_cases hb : bX n0 w SX (h + k) = 0
    · rw [if_pos hb, if_pos hb]
      unfold fX12_hush_b52 fX12_hush_b59
      dsimp only [lt]
      rw [hh, nI_1 k]
    · rw [if_neg hb, if_neg hb]
      unfold fX12_hush_b58 fX12_hush_b59
      dsimp only [lt]
      rw [hh, nI_1 k]
theorem st_hush : Lw_hush JJ := by
  intro SX SM x1 hJ
  have hJ1 := hJ.same xSame.rf (code_same SM 0)
  have c0 := code_at SM 0
  obtain ⟨S1, hS1⟩ : ∃ z, z = sU SM 99 4 0 := ⟨_, rfl⟩
  rw [← hS1] at hJ1 c0
  obtain ⟨n0, n1, w, h, hT, hN, D⟩ := hJ1.dr
  have hF : ∀ M, fX12_hush M x1 SM = if iv (wth x1 1 60) = 0 then fX12_hush_b17 M S1 else fX12_hush_b23 M x1 S1 := by
    intro M
    unfold fX12_hush fX12_hush_b0
    dsimp only [lt]
    rw [← hS1, bnd_t in_1_60]
  cases hx : wth x1 1 60 with
  | false =>
    refine stp_no (t := 2) (v := 0) (w := 0) (SX' := SX) (SM' := sU S1 99 4 1) 1000 1000 (hJ1.same xSame.rf (code_same S1 1)) (by decide) (Or.inr rfl) ?_ ?_ (code_at S1 1)
    · show fX11_hush_b0 1000 x1 SX = _
      unfold fX11_hush_b0
      rw [bnx_x x_needWithin (by rw [hx]; exact two_ne), hx]
      rfl
    · show fX12_hush 1000 x1 SM = _
      rw [hF, hx]
      rfl
  | true =>
    obtain ⟨c, c1, c2, rfl⟩ := wth_of (a := 1) (b := 60) (by decide) (by decide) hx
    obtain ⟨S2, p1, D2, E⟩ := q_begin D c0
    obtain ⟨S4, u1, u2, u3⟩ := m_hush_h (n := c) D2 c2 E c 0 0 0 1000 S2 (by omega) (by omega) oSame.rf D2.2.2.2.2.2.1.2.2
    refine stp_ok (SX := SX) (SM := SM) (SX' := SX) (SM' := S4) (v := huR (fun i => bX n0 w SX (h + i)) c 0 0 0) 1000 1000 (hJ1.same xSame.rf u2) rfl (Or.inl rfl) ?_ ?_ u3
    · show fX11_hush_b0 1000 (nI c) SX = _
      unfold fX11_hush_b0
      rw [bnx_t x_needWithin (by rw [hx]; rfl)]
      exact x_hush_h D c2 c 0 0 0 1000 (by omega) (by omega)
    · show fX12_hush 1000 (nI c) SM = _
      rw [hF, hx]
      show fX12_hush_b23 1000 (nI c) S1 = _
      unfold fX12_hush_b23
      rw [bnd_t p1]
      exact u1
/-! bits of what drips, one by one -/
theorem bb_drB {c : Nat → Bool} {i : Nat} (hi : i < 32) : ∀ (m k : Nat) (acc : Int32), k + m ≤ 32 → bb (drB c m k acc) i = (bb acc i || (decide (k ≤ i) && decide (i < k + m) && c i)) := by
  intro m
  induction m with
  | zero =>
    intro k acc h
    show bb acc i = _
    have : (decide (k ≤ i) && decide (i < k + 0)) = false := by
      cases h1 : decide (k ≤ i) with
      | false => rfl
      | true =>
        rw [decide_eq_true_iff] at h1
        rw [Bool.true_and, decide_eq_false (by omega)]
    rw [this, Bool.false_and, Bool.or_false]
  | succ m ih =>
    intro k acc h
    show bb (drB c m (k + 1) _) i = _
    rw [ih (k + 1) _ (by omega)]
    by_cases hk : i = k
    · subst hk
      rw [decide_eq_false (p := i + 1 ≤ i) (by omega), decide_eq_true (p := i ≤ i) (by omega), decide_eq_true (p := i < i + (m + 1)) (by omega)]
      by_cases hc : c i = true
      · rw [if_pos hc, bb_or, bb_pow i hi i hi, hc, decide_eq_true (p := i = i) rfl]
        simp
      · rw [if_neg hc, Bool.not_eq_true _ |>.mp hc]
        simp
    · have e1 : decide (k + 1 ≤ i) = decide (k ≤ i) := decide_eq_decide.mpr (by omega)
      have e2 : decide (i < k + 1 + m) = decide (i < k + (m + 1)) := decide_eq_decide.mpr (by omega)
      rw [e1, e2]
      by_cases hc : c k = true
      · rw [if_pos hc, bb_or, bb_pow k (by omega) i hi, decide_eq_false hk, Bool.or_false]
      · rw [if_neg hc]
theorem bt_bX {n0 w h k : Nat} {SX : gS} (hn : n0 ≤ 8) (hk : k < n0) : bt (bX n0 w SX h) (nI k) = drS (SX (xtw SX + 2) k) (SX (xtw SX + 1) k) (nI h) (wetS w (SX (xtw SX + 9)) h) (bt (SX 21 1) (nI k)) := by
  rw [bt_bb (by omega)]
  unfold bX
  rw [bb_drB (by omega) n0 0 0 (by omega), bb_0, decide_eq_true (p := 0 ≤ k) (by omega), decide_eq_true (p := k < 0 + n0) (by omega)]
  simp
theorem shr1_iv {x k : Int32} : ((x >>> (k &&& 31)) &&& 1 : Int32) = iv (bt x k) := by
  unfold bt iv
  rcases and1 (x >>> (k &&& 31)) with h | h
  · rw [h]
    rfl
  · rw [h]
    rfl
theorem x_ahead {N n0 w h c k : Nat} {SX SM : gS} (D : jDr n0 w h SX SM) (hk : k < n0) (hc : 1 ≤ c) (hb : c ≤ 100) : fX11_dripsAhead N (nI k) (nI c) SX = some (iv (bt (bX n0 w SX (h + c - 1)) (nI k)), SX) := by
  obtain ⟨⟨a1, a2, a3⟩, ⟨w1, w2, w3, w4⟩, hd, hp, -, ⟨e1, e2, e3⟩, -⟩ := D
  rw [bt_bX a3 hk]
  exact x_dripsAhead rfl a1 a3 hk (fun k hk => by obtain ⟨d, q1, q2, q3, -⟩ := hd k hk; exact ⟨d, q1, q2, q3⟩) w2 w1 e2 hc (by omega)
end

/-! part 39.aoften -/
section
/-! often, grotto -/
noncomputable def ofR (c : Nat → Bool) : Nat → Nat → Int32 → Int32
  | 0, _, acc => acc
  | m + 1, k, acc => ofR c m (k + 1) (acc + iv (c k))
theorem x_often_h {n0 w h n k0 : Nat} {SX SM : gS} (D : jDr n0 w h SX SM) (hk : k0 < n0) (hn : n ≤ 60) : ∀ (m k : Nat) (acc : Int32) (fuel : Nat), k + m = n → m < fuel → fX11_often_h17 1000 fuel (nI k0) (nI n) acc (nI (k + 1)) SX = some (0, ofR (fun i => bt (bX n0 w SX (h + i)) (nI k0)) m k acc, SX) := by
  intro m
  induction m with
  | zero =>
    intro k acc fuel h1 h2
    obtain ⟨f, rfl⟩ : ∃ f, fuel = f + 1 := ⟨fuel - 1, by omega⟩
    show fX11_often_b17 1000 _ (nI k0) (nI n) acc (nI (k + 1)) SX = _
    unfold fX11_often_b17
    rw [if_pos (nI_lt (by omega) (by omega))]
    rfl
  | succ m ih =>
    intro k acc fuel h1 h2
    obtain ⟨f, rfl⟩ : ∃ f, fuel = f + 1 := ⟨fuel - 1, by omega⟩
    show fX11_often_b17 1000 (fX11_often_h17 1000 f) (nI k0) (nI n) acc (nI (k + 1)) SX = _
    unfold fX11_often_b17
    rw [if_neg (nI_nlt (by omega) (by omega))]
    unfold fX11_often_b23
    rw [bnd_t (x_ahead D hk (by omega) (by omega))]
    show (if iv (bt (bX n0 w SX (h + k)) (nI k0)) = 0 then _ else _) = some (0, ofR (fun i => bt (bX n0 w SX (h + i)) (nI k0)) m (k + 1) (acc + iv (bt (bX n0 w SX (h + k)) (nI k0))), SX)
    cases hb : bt (bX n0 w SX (h + k)) (nI k0) with
    | false =>
      show fX11_often_b36 1000 (fX11_often_h17 1000 f) (nI k0) (nI n) acc (nI (k + 1)) SX = _
      unfold fX11_often_b36
      rw [nI_1, show acc + iv false = acc from Int32.add_zero acc]
      exact ih (k + 1) _ f (by omega) (by omega)
    | true =>
      show fX11_often_b33 1000 (fX11_often_h17 1000 f) (nI k0) (nI n) acc (nI (k + 1)) SX = _
      unfold fX11_often_b33 fX11_often_b36
      rw [nI_1 (k + 1)]
      exact ih (k + 1) _ f (by omega) (by omega)
theorem m_often_h {n0 w h n k0 : Nat} {SX S1 S2 : gS} (D : jDr n0 w h SX S2) (hn : n ≤ 60) (E : ∀ S, oSame mHr S2 S → ∃ S4, fX12_unpack 1000 46 0 S = some (0, S4) ∧ mSame S1 S4 ∧ S4 99 4 = 0) : ∀ (m k : Nat) (acc : Int32) (fuel : Nat) (S : gS), k + m = n → m < fuel → oSame mHr S2 S → S 99 37 = nI (h + k) →
    ∃ S4, fX12_often_h51 1000 fuel (nI k0) (nI n) acc (nI k) S = some (ofR (fun i => bt (bX n0 w SX (h + i)) (nI k0)) m k acc, S4) ∧ mSame S1 S4 ∧ S4 99 4 = 0 := by
  have h9 := D.2.2.2.2.2.1.1
  intro m
  induction m with
  | zero =>
    intro k acc fuel S h1 h2 s hh
    obtain ⟨f, rfl⟩ : ∃ f, fuel = f + 1 := ⟨fuel - 1, by omega⟩
    obtain ⟨S4, u1, u2, u3⟩ := E S s
    refine ⟨S4, ?_, u2, u3⟩
    show fX12_often_b51 1000 _ (nI k0) (nI n) acc (nI k) S = _
    unfold fX12_often_b51
    rw [if_pos (nI_le (by omega) (by omega))]
    unfold fX12_often_b84
    rw [bnd_t u1]
    rfl
  | succ m ih =>
    intro k acc fuel S h1 h2 s hh
    obtain ⟨f, rfl⟩ : ∃ f, fuel = f + 1 := ⟨fuel - 1, by omega⟩
    obtain ⟨S4, u1, u2, u3⟩ := ih (k + 1) (acc + iv (bt (bX n0 w SX (h + k)) (nI k0))) f (sU S 99 37 (nI (h + k) + 1)) (by omega) (by omega) (s.up rfl) (by rw [sU_s, nI_1]; rfl)
    refine ⟨S4, ?_, u2, u3⟩
    show fX12_often_b51 1000 (fX12_often_h51 1000 f) (nI k0) (nI n) acc (nI k) S = some (ofR (fun i => bt (bX n0 w SX (h + i)) (nI k0)) m (k + 1) _, S4)
    unfold fX12_often_b51
    rw [if_neg (nI_ge (by omega) (by omega))]
    unfold fX12_often_b57
    rw [bnd_t (m_dripAt D s hh (by omega) (by decide))]
    dsimp only [lt]
    rw [hh, shr1_iv, nI_1 k]
    exact u1
theorem st_often : Lw_often JJ := by
  intro SX SM x1 x2 hJ
  have hJ1 := hJ.same xSame.rf (code_same SM 0)
  have c0 := code_at SM 0
  obtain ⟨S1, hS1⟩ : ∃ z, z = sU SM 99 4 0 := ⟨_, rfl⟩
  rw [← hS1] at hJ1 c0
  obtain ⟨n0, n1, w, h, hT, hN, D⟩ := hJ1.dr
  obtain ⟨a1, a2, a3⟩ := D.1
  have hF : ∀ M, fX12_often M x1 x2 SM = if iv (inb x1 n0) = 0 then fX12_often_b13 M S1 else fX12_often_b19 M x1 x2 S1 := by
    intro M
    unfold fX12_often fX12_often_b0
    dsimp only [lt]
    rw [← hS1, bnd_t (m_isGrotto a2 (by omega))]
  have hG : ∀ M, fX12_often_b19 M x1 x2 S1 = if iv (wth x2 0 60) = 0 then fX12_often_b31 M S1 else fX12_often_b37 M x1 x2 S1 := by
    intro M
    unfold fX12_often_b19
    rw [bnd_t in_0_60]
  cases hk : inb x1 n0 with
  | false =>
    refine stp_no (t := 1) (v := 0) (w := 0) (SX' := SX) (SM' := sU S1 99 4 1) 1000 1000 (hJ1.same xSame.rf (code_same S1 1)) (by decide) (Or.inr (Or.inl rfl)) ?_ ?_ (code_at S1 1)
    · show fX11_often_b0 1000 x1 x2 SX = _
      unfold fX11_often_b0
      rw [bnx_x (x_needGrotto a1 (by omega)) (by rw [hk]; exact one_ne), hk]
      rfl
    · show fX12_often 1000 x1 x2 SM = _
      rw [hF, hk]
      rfl
  | true =>
    obtain ⟨k0, hk0, rfl⟩ := inb_of hk (by omega)
    cases hx : wth x2 0 60 with
    | false =>
      refine stp_no (t := 2) (v := 0) (w := 0) (SX' := SX) (SM' := sU S1 99 4 2) 1000 1000 (hJ1.same xSame.rf (code_same S1 2)) (by decide) (Or.inr (Or.inr rfl)) ?_ ?_ (code_at S1 2)
      · show fX11_often_b0 1000 (nI k0) x2 SX = _
        unfold fX11_often_b0
        rw [bnx_t (x_needGrotto a1 (by omega)) (by rw [hk]; rfl)]
        dsimp only
        rw [bnx_x x_needWithin (by rw [hx]; exact two_ne), hx]
        rfl
      · show fX12_often 1000 (nI k0) x2 SM = _
        rw [hF, hk]
        show fX12_often_b19 1000 (nI k0) x2 S1 = _
        rw [hG, hx]
        rfl
    | true =>
      obtain ⟨c, c1, c2, rfl⟩ := wth_of (a := 0) (b := 60) (by decide) (by decide) hx
      obtain ⟨S2, p1, D2, E⟩ := q_begin D c0
      obtain ⟨S4, u1, u2, u3⟩ := m_often_h (n := c) (k0 := k0) D2 c2 E c 0 0 1000 S2 (by omega) (by omega) oSame.rf D2.2.2.2.2.2.1.2.2
      refine stp_ok (SX := SX) (SM := SM) (SX' := SX) (SM' := S4) (v := ofR (fun i => bt (bX n0 w SX (h + i)) (nI k0)) c 0 0) 1000 1000 (hJ1.same xSame.rf u2) rfl (Or.inl rfl) ?_ ?_ u3
      · show fX11_often_b0 1000 (nI k0) (nI c) SX = _
        unfold fX11_often_b0
        rw [bnx_t (x_needGrotto a1 (by omega)) (by rw [hk]; rfl)]
        dsimp only
        rw [bnx_t x_needWithin (by rw [hx]; rfl)]
        exact x_often_h D hk0 c2 c 0 0 1000 (by omega) (by omega)
      · show fX12_often 1000 (nI k0) (nI c) SM = _
        rw [hF, hk]
        show fX12_often_b19 1000 (nI k0) (nI c) S1 = _
        rw [hG, hx]
        show fX12_often_b37 1000 (nI k0) (nI c) S1 = _
        unfold fX12_often_b37
        rw [bnd_t p1]
        exact u1
/-! the next drip -/
noncomputable def ndR (c : Nat → Bool) : Nat → Nat → Int32
  | 0, _ => -1
  | m + 1, k => if c k = true then nI (k + 1) else ndR c m (k + 1)
theorem x_next_h {n0 w h k0 : Nat} {SX SM : gS} (D : jDr n0 w h SX SM) (hk : k0 < n0) : ∀ (m k : Nat) (fuel : Nat), k + m = 60 → m < fuel → fX11_nextDrip_h2 1000 fuel (nI k0) (nI (k + 1)) SX = some (ndR (fun i => bt (bX n0 w SX (h + i)) (nI k0)) m k, SX) := by
  intro m
  induction m with
  | zero =>
    intro k fuel h1 h2
    obtain ⟨f, rfl⟩ : ∃ f, fuel = f + 1 := ⟨fuel - 1, by omega⟩
    have hk6 : k = 60 := by omega
    subst hk6
    rfl
  | succ m ih =>
    intro k fuel h1 h2
    obtain ⟨f, rfl⟩ : ∃ f, fuel = f + 1 := ⟨fuel - 1, by omega⟩
    show fX11_nextDrip_b2 1000 (fX11_nextDrip_h2 1000 f) (nI k0) (nI (k + 1)) SX = _
    unfold fX11_nextDrip_b2
    rw [if_neg (show ¬ 60 < nI (k + 1) from nI_nlt (a := 60) (by omega) (by omega))]
    unfold fX11_nextDrip_b8
    rw [bnd_t (x_ahead D hk (by omega) (by omega))]
    show (if iv (bt (bX n0 w SX (h + k)) (nI k0)) = 0 then _ else _) = some (if bt (bX n0 w SX (h + k)) (nI k0) = true then nI (k + 1) else ndR _ m (k + 1), SX)
    by_cases hb : bt (bX n0 w SX (h + k)) (nI k0) = true
    · rw [if_pos hb, hb]
      rfl
    · rw [if_neg hb, Bool.not_eq_true _ |>.mp hb]
      show fX11_nextDrip_b19 1000 (fX11_nextDrip_h2 1000 f) (nI k0) (nI (k + 1)) SX = _
      unfold fX11_nextDrip_b19
      rw [nI_1 (k + 1)]
      exact ih (k + 1) f (by omega) (by omega)
theorem m_next_h {n0 w h k0 : Nat} {SX S1 S2 : gS} (D : jDr n0 w h SX S2) (E : ∀ S, oSame mHr S2 S → ∃ S4, fX12_unpack 1000 46 0 S = some (0, S4) ∧ mSame S1 S4 ∧ S4 99 4 = 0) : ∀ (m k : Nat) (fuel : Nat) (S : gS), k + m = 60 → m + 1 < fuel → oSame mHr S2 S → S 99 37 = nI (h + k) →
    ∃ S4, fX12_nextDrip_h13 1000 fuel (nI k0) (-1) (nI (k + 1)) S = some (ndR (fun i => bt (bX n0 w SX (h + i)) (nI k0)) m k, S4) ∧ mSame S1 S4 ∧ S4 99 4 = 0 := by
  have h9 := D.2.2.2.2.2.1.1
  intro m
  induction m with
  | zero =>
    intro k fuel S h1 h2 s hh
    obtain ⟨f, rfl⟩ : ∃ f, fuel = f + 1 := ⟨fuel - 1, by omega⟩
    obtain ⟨S4, u1, u2, u3⟩ := E S s
    refine ⟨S4, ?_, u2, u3⟩
    have hk6 : k = 60 := by omega
    subst hk6
    show fX12_nextDrip_b53 1000 (-1) S = _
    unfold fX12_nextDrip_b53
    rw [bnd_t u1]
    rfl
  | succ m ih =>
    intro k fuel S h1 h2 s hh
    obtain ⟨f, rfl⟩ : ∃ f, fuel = f + 1 := ⟨fuel - 1, by omega⟩
    have hst : fX12_nextDrip_h13 1000 (f + 1) (nI k0) (-1) (nI (k + 1)) S = if iv (bt (bX n0 w SX (h + k)) (nI k0)) = 0 then fX12_nextDrip_b37 1000 (fX12_nextDrip_h13 1000 f) (nI k0) (-1) (nI (k + 1)) S else fX12_nextDrip_b35 1000 (fX12_nextDrip_h13 1000 f) (nI k0) (nI (k + 1)) S := by
      show fX12_nextDrip_b13 1000 (fX12_nextDrip_h13 1000 f) (nI k0) (-1) (nI (k + 1)) S = _
      unfold fX12_nextDrip_b13
      rw [if_neg (show ¬ 60 < nI (k + 1) from nI_nlt (a := 60) (by omega) (by omega))]
      unfold fX12_nextDrip_b19
      rw [if_pos rfl]
      unfold fX12_nextDrip_b24
      rw [bnd_t (m_dripAt D s hh (by omega) (by decide))]
      dsimp only
      rw [bnd_t m_isOf]
    by_cases hb : bt (bX n0 w SX (h + k)) (nI k0) = true
    · obtain ⟨S4, u1, u2, u3⟩ := E (sU S 99 37 (nI (h + k) + 1)) (s.up rfl)
      refine ⟨S4, ?_, u2, u3⟩
      rw [hst, hb]
      show fX12_nextDrip_b35 1000 (fX12_nextDrip_h13 1000 f) (nI k0) (nI (k + 1)) S = some (if bt (bX n0 w SX (h + k)) (nI k0) = true then nI (k + 1) else ndR _ m (k + 1), S4)
      rw [if_pos hb]
      unfold fX12_nextDrip_b35 fX12_nextDrip_b37
      dsimp only [lt]
      rw [hh]
      obtain ⟨f', rfl⟩ : ∃ f', f = f' + 1 := ⟨f - 1, by omega⟩
      show fX12_nextDrip_b13 1000 (fX12_nextDrip_h13 1000 f') (nI k0) (nI (k + 1)) (nI (k + 1) + 1) _ = _
      unfold fX12_nextDrip_b13
      have hne : ¬ nI (k + 1) = -1 := fun q => by
        have h7 : (nI (k + 1)).toInt = (-1 : Int32).toInt := by rw [q]
        rw [nI_toInt (by omega)] at h7
        have h8 : (-1 : Int32).toInt = -1 := by decide
        omega
      have hend : fX12_nextDrip_b53 1000 (nI (k + 1)) (sU S 99 37 (nI (h + k) + 1)) = some (nI (k + 1), S4) := by
        unfold fX12_nextDrip_b53
        rw [bnd_t u1]
      by_cases hq : 60 < nI (k + 1) + 1
      · rw [if_pos hq]
        exact hend
      · rw [if_neg hq]
        unfold fX12_nextDrip_b19
        rw [if_neg hne]
        exact hend
    · obtain ⟨S4, u1, u2, u3⟩ := ih (k + 1) f (sU S 99 37 (nI (h + k) + 1)) (by omega) (by omega) (s.up rfl) (by rw [sU_s, nI_1]; rfl)
      refine ⟨S4, ?_, u2, u3⟩
      rw [hst, Bool.not_eq_true _ |>.mp hb]
      show fX12_nextDrip_b37 1000 (fX12_nextDrip_h13 1000 f) (nI k0) (-1) (nI (k + 1)) S = some (if bt (bX n0 w SX (h + k)) (nI k0) = true then nI (k + 1) else ndR _ m (k + 1), S4)
      rw [if_neg hb]
      unfold fX12_nextDrip_b37
      dsimp only [lt]
      rw [hh, nI_1 (k + 1)]
      exact u1
end

/-! part 40.agrotto -/
section
/-! grotto -/
theorem st_grotto : Lw_grotto JJ := by
  intro SX SM x1 x2 hJ
  have hJ1 := hJ.same xSame.rf (code_same SM 0)
  have c0 := code_at SM 0
  obtain ⟨S1, hS1⟩ : ∃ z, z = sU SM 99 4 0 := ⟨_, rfl⟩
  rw [← hS1] at hJ1 c0
  obtain ⟨n0, n1, w, h, hT, hN, D⟩ := hJ1.dr
  obtain ⟨a1, a2, a3⟩ := D.1
  obtain ⟨-, ⟨b1, b2, b3⟩, -, -, hg, -⟩ := hT
  obtain ⟨⟨-, e4, e5, -⟩, -⟩ := hN
  have e4 : SX 21 1 = S1 99 38 := e4
  have hF : ∀ M, fX12_grotto M x1 x2 SM = if iv (inb x1 n0) = 0 then fX12_grotto_b13 M S1 else fX12_grotto_b19 M x1 x2 S1 := by
    intro M
    unfold fX12_grotto fX12_grotto_b0
    dsimp only [lt]
    rw [← hS1, bnd_t (m_isGrotto a2 (by omega))]
  cases hk : inb x1 n0 with
  | false =>
    refine stp_no (t := 1) (v := 0) (w := 0) (SX' := SX) (SM' := sU S1 99 4 1) 1000 1000 (hJ1.same xSame.rf (code_same S1 1)) (by decide) (Or.inr rfl) ?_ ?_ (code_at S1 1)
    · show fX11_grotto_b0 1000 x1 x2 SX = _
      unfold fX11_grotto_b0
      rw [bnx_x (x_needGrotto a1 (by omega)) (by rw [hk]; exact one_ne), hk]
      rfl
    · show fX12_grotto 1000 x1 x2 SM = _
      rw [hF, hk]
      rfl
  | true =>
    obtain ⟨k0, hk0, rfl⟩ := inb_of hk (by omega)
    obtain ⟨⟨xd, xd1, xd2, xd3, xd4⟩, ⟨xp, xp1, xp2, xp3⟩, ⟨xc, xc1, xc2, xc3⟩, ⟨xh, xh1, xh2, xh3⟩⟩ := hg k0 hk0
    have hX : fX11_grotto 1000 (nI k0) x2 SX = if x2 = 0 then fX11_grotto_b48 1000 (nI k0) SX else if x2 = 1 then fX11_grotto_b58 1000 (nI k0) SX else if x2 = 2 then fX11_grotto_b68 1000 (nI k0) SX else if x2 = 3 then fX11_grotto_b78 1000 (nI k0) SX else if x2 = 4 then fX11_grotto_b96 1000 (nI k0) SX else if x2 = 5 then fX11_grotto_b116 1000 (nI k0) SX else if x2 = 6 then fX11_grotto_b132 1000 (nI k0) SX else fX11_grotto_b138 1000 SX := by
      unfold fX11_grotto fX11_grotto_b0
      rw [bnx_t (x_needGrotto a1 (by omega)) (by rw [hk]; rfl)]
    have hM : fX12_grotto 1000 (nI k0) x2 SM = fX12_grotto_b19 1000 (nI k0) x2 S1 := by
      rw [hF, hk]
      rfl
    have key : ∀ v, fX11_grotto 1000 (nI k0) x2 SX = some (0, v, SX) → fX12_grotto_b19 1000 (nI k0) x2 S1 = some (v, S1) → StpT JJ lcA okA (fun N => fX11_grotto N (nI k0) x2 SX) (fun M => fX12_grotto M (nI k0) x2 SM) := fun v h1 h2 => stp_ok (SX := SX) (SM := SM) 1000 1000 hJ1 rfl (Or.inl rfl) h1 (hM.trans h2) c0
    by_cases h0 : x2 = 0
    · subst h0
      refine key (nI xd) ?_ ?_
      · rw [hX]
        show fX11_grotto_b48 1000 (nI k0) SX = _
        unfold fX11_grotto_b48
        dsimp only [lt]
        rw [chk_t (inb_t (by omega) (by decide)), nI_clamp (by omega), xd3]
      · show fX12_grotto_b64 1000 (nI k0) S1 = _
        unfold fX12_grotto_b64
        rw [chk_t (inb_t (by omega) (by decide)), nI_clamp (by omega), xd4]
    by_cases h1 : x2 = 1
    · subst h1
      refine key (nI xp) ?_ ?_
      · rw [hX]
        show fX11_grotto_b58 1000 (nI k0) SX = _
        unfold fX11_grotto_b58
        dsimp only [lt]
        rw [chk_t (inb_t (by omega) (by decide)), nI_clamp (by omega), xp2]
      · show fX12_grotto_b71 1000 (nI k0) S1 = _
        unfold fX12_grotto_b71
        rw [chk_t (inb_t (by omega) (by decide)), nI_clamp (by omega), xp3]
    by_cases h2 : x2 = 2
    · subst h2
      refine key (nI xc) ?_ ?_
      · rw [hX]
        show fX11_grotto_b68 1000 (nI k0) SX = _
        unfold fX11_grotto_b68
        dsimp only [lt]
        rw [chk_t (inb_t (by omega) (by decide)), nI_clamp (by omega), xc2]
      · show fX12_grotto_b78 1000 (nI k0) S1 = _
        unfold fX12_grotto_b78
        rw [chk_t (inb_t (by omega) (by decide)), nI_clamp (by omega), xc3]
    by_cases h3 : x2 = 3
    · subst h3
      refine key (nI xh) ?_ ?_
      · rw [hX]
        show fX11_grotto_b78 1000 (nI k0) SX = _
        unfold fX11_grotto_b78
        dsimp only [lt]
        rw [chk_t (inb_t (by omega) (by decide)), nI_clamp (by omega), xh2]
        rcases (show xh = 0 ∨ xh = 1 by omega) with rfl | rfl
        · rfl
        · rfl
      · show fX12_grotto_b85 1000 (nI k0) S1 = _
        unfold fX12_grotto_b85
        rw [chk_t (inb_t (by omega) (by decide)), nI_clamp (by omega), xh3]
    by_cases h4 : x2 = 4
    · subst h4
      refine key (iv (bt (SX 21 1) (nI k0))) ?_ ?_
      · rw [hX]
        show fX11_grotto_b96 1000 (nI k0) SX = _
        unfold fX11_grotto_b96
        have hd : fX7_isDrained 1000 21 (nI k0) SX = some (iv (bt (SX 21 1) (nI k0)), SX) := by
          unfold fX7_isDrained fX7_isDrained_b0
          rw [bnd_t x_isOneOf]
          exact chk_t zb_iv
        rw [bnd_t hd]
        cases bt (SX 21 1) (nI k0) <;> rfl
      · show fX12_grotto_b92 1000 (nI k0) S1 = _
        unfold fX12_grotto_b92
        rw [shr1_iv, e4]
    by_cases h5 : x2 = 5
    · subst h5
      refine key (hoR (SX (21 + 4)) (nI k0) n1 0) ?_ ?_
      · rw [hX]
        show fX11_grotto_b116 1000 (nI k0) SX = _
        unfold fX11_grotto_b116
        dsimp only [lt]
        rw [bnd_t (x_holderOf b1 b3 (by omega))]
      · show fX12_grotto_b101 1000 (nI k0) S1 = _
        unfold fX12_grotto_b101
        rw [bnd_t (m_hirerOf b2 b3 (by omega)), hoR_eq (r := S1 35) (r' := SX (21 + 4)) n1 0 (fun i _ hi => ((e5 i (by omega)).2.2.2).symm)]
    by_cases h6 : x2 = 6
    · subst h6
      obtain ⟨S2, p1, D2, E⟩ := q_begin D c0
      obtain ⟨S4, u1, u2, u3⟩ := m_next_h (k0 := k0) D2 E 60 0 1000 S2 (by omega) (by omega) oSame.rf D2.2.2.2.2.2.1.2.2
      refine stp_ok (SX := SX) (SM := SM) (SX' := SX) (SM' := S4) (v := ndR (fun i => bt (bX n0 w SX (h + i)) (nI k0)) 60 0) 1000 1000 (hJ1.same xSame.rf u2) rfl (Or.inl rfl) ?_ ?_ u3
      · show fX11_grotto 1000 (nI k0) 6 SX = _
        rw [hX]
        show fX11_grotto_b132 1000 (nI k0) SX = _
        unfold fX11_grotto_b132
        rw [bnd_t (show fX11_nextDrip 1000 (nI k0) SX = some (ndR (fun i => bt (bX n0 w SX (h + i)) (nI k0)) 60 0, SX) from x_next_h D hk0 60 0 1000 (by omega) (by omega))]
      · show fX12_grotto 1000 (nI k0) 6 SM = _
        rw [hM]
        show fX12_grotto_b107 1000 (nI k0) S1 = _
        unfold fX12_grotto_b107
        have hq : fX12_nextDrip 1000 (nI k0) S1 = some (ndR (fun i => bt (bX n0 w SX (h + i)) (nI k0)) 60 0, S4) := by
          unfold fX12_nextDrip fX12_nextDrip_b0
          rw [bnd_t p1]
          exact u1
        rw [bnd_t hq]
    refine stp_no (t := 1) (v := 0) (w := 0) (SX' := SX) (SM' := sU S1 99 4 1) 1000 1000 (hJ1.same xSame.rf (code_same S1 1)) (by decide) (Or.inr rfl) ?_ ?_ (code_at S1 1)
    · show fX11_grotto 1000 (nI k0) x2 SX = _
      rw [hX, if_neg h0, if_neg h1, if_neg h2, if_neg h3, if_neg h4, if_neg h5, if_neg h6]
      rfl
    · show fX12_grotto 1000 (nI k0) x2 SM = _
      rw [hM]
      unfold fX12_grotto_b19
      rw [if_neg h0, if_neg h1, if_neg h2, if_neg h3, if_neg h4, if_neg h5, if_neg h6]
      rfl
end

/-! part 41.arule -/
section
/-! RULES: a pure picture of their worth -/
noncomputable def opS (v : Nat) (a b : Int32) : Int32 :=
  if v = 10011 then (if a = 0 then (if b = 0 then 0 else 1) else 1) else if v = 10012 then (if a = 0 then 0 else if b = 0 then 0 else 1) else if v = 10013 then (if b ≤ a then 0 else 1) else if v = 10014 then (if a = b then 1 else 0) else if v = 10015 then a + b else if v = 10016 then a - b else if v = 10017 then a * b else (if b = 0 then 0 else a / b)
theorem x_join {N v : Nat} {S : gS} {a b : Int32} (h1 : 10011 ≤ v) (h2 : v ≤ 10018) : fX4_join N (nI v) a b S = some (opS v a b, S) := by
  unfold fX4_join
  rcases (show v = 10011 ∨ v = 10012 ∨ v = 10013 ∨ v = 10014 ∨ v = 10015 ∨ v = 10016 ∨ v = 10017 ∨ v = 10018 by omega) with rfl | rfl | rfl | rfl | rfl | rfl | rfl | rfl
  · show fX4_join_b44 N a b S = some ((if a = 0 then (if b = 0 then 0 else 1) else 1), S)
    unfold fX4_join_b44 fX4_join_b48
    by_cases ha : a = 0
    · rw [if_pos ha, if_pos ha]
      by_cases hb : b = 0
      · rw [if_pos hb, if_pos hb]; rfl
      · rw [if_neg hb, if_neg hb]; rfl
    · rw [if_neg ha, if_neg ha]; rfl
  · show fX4_join_b58 N a b S = some ((if a = 0 then 0 else if b = 0 then 0 else 1), S)
    unfold fX4_join_b58 fX4_join_b62
    by_cases ha : a = 0
    · rw [if_pos ha, if_pos ha]; rfl
    · rw [if_neg ha, if_neg ha]
      by_cases hb : b = 0
      · rw [if_pos hb, if_pos hb]; rfl
      · rw [if_neg hb, if_neg hb]; rfl
  · show fX4_join_b72 N a b S = some ((if b ≤ a then 0 else 1), S)
    unfold fX4_join_b72
    by_cases ha : b ≤ a
    · rw [if_pos ha, if_pos ha]; rfl
    · rw [if_neg ha, if_neg ha]; rfl
  · show fX4_join_b83 N a b S = some ((if a = b then 1 else 0), S)
    unfold fX4_join_b83
    by_cases ha : a = b
    · rw [if_pos ha, if_pos ha]; rfl
    · rw [if_neg ha, if_neg ha]; rfl
  · rfl
  · rfl
  · rfl
  · show fX4_join_b106 N a b S = some ((if b = 0 then 0 else a / b), S)
    unfold fX4_join_b106
    by_cases hb : b = 0
    · rw [if_pos hb, if_pos hb]; rfl
    · rw [if_neg hb, if_neg hb]
      unfold fX4_join_b114
      rw [chk_t (show nz b = true from decide_eq_true hb)]
      rfl
theorem m_reckon {N v : Nat} {S : gS} {a b : Int32} (h1 : 10011 ≤ v) (h2 : v ≤ 10018) : fX12_reckon N (sgn (nI v)) a b S = some (opS v a b, S) := by
  unfold fX12_reckon
  rcases (show v = 10011 ∨ v = 10012 ∨ v = 10013 ∨ v = 10014 ∨ v = 10015 ∨ v = 10016 ∨ v = 10017 ∨ v = 10018 by omega) with rfl | rfl | rfl | rfl | rfl | rfl | rfl | rfl
  · show fX12_reckon_b104 N a b S = some ((if a = 0 then (if b = 0 then 0 else 1) else 1), S)
    unfold fX12_reckon_b104 fX12_reckon_b108
    by_cases ha : a = 0
    · rw [if_pos ha, if_pos ha]
      by_cases hb : b = 0
      · rw [if_pos hb, if_pos hb]; rfl
      · rw [if_neg hb, if_neg hb]; rfl
    · rw [if_neg ha, if_neg ha]; rfl
  · show fX12_reckon_b90 N a b S = some ((if a = 0 then 0 else if b = 0 then 0 else 1), S)
    unfold fX12_reckon_b90 fX12_reckon_b94
    by_cases ha : a = 0
    · rw [if_pos ha, if_pos ha]; rfl
    · rw [if_neg ha, if_neg ha]
      by_cases hb : b = 0
      · rw [if_pos hb, if_pos hb]; rfl
      · rw [if_neg hb, if_neg hb]; rfl
  · show fX12_reckon_b68 N a b S = some ((if b ≤ a then 0 else 1), S)
    unfold fX12_reckon_b68
    by_cases ha : b ≤ a
    · rw [if_pos ha, if_pos ha]; rfl
    · rw [if_neg ha, if_neg ha]; rfl
  · show fX12_reckon_b79 N a b S = some ((if a = b then 1 else 0), S)
    unfold fX12_reckon_b79
    by_cases ha : a = b
    · rw [if_pos ha, if_pos ha]; rfl
    · rw [if_neg ha, if_neg ha]; rfl
  · rfl
  · rfl
  · rfl
  · show fX12_reckon_b56 N a b S = some ((if b = 0 then 0 else a / b), S)
    unfold fX12_reckon_b56
    by_cases hb : b = 0
    · rw [if_pos hb, if_pos hb]; rfl
    · rw [if_neg hb, if_neg hb]
      unfold fX12_reckon_b64
      rw [chk_t (show nz b = true from decide_eq_true hb)]
      rfl
/-! the row of what is held, code by code -/
noncomputable def rStep (c : Nat → Int32) (a : Nat → Int32) (d : Nat) (row : Nat → Int32) (i : Nat) : Nat → Int32 :=
  if c i < 10010 then upd row d (if c i ≤ 9999 then c i else a ((c i).toNatClampNeg - 10000)) else if c i = 10010 then upd row (d - 1) (if row (d - 1) = 0 then 1 else 0) else upd row (d - 2) (opS (c i).toNatClampNeg (row (d - 2)) (row (d - 1)))
noncomputable def rRow (c : Nat → Int32) (a : Nat → Int32) (row : Nat → Int32) : Nat → Nat → Int32
  | 0 => row
  | i + 1 => rStep c a (rDep c i) (rRow c a row i) i
/-- the rows of two sides agree as far as they are held -/
theorem rRow_eq {c a : Nat → Int32} {r r' : Nat → Int32} {n : Nat} (ok : ∀ i, i < n → ((0 ≤ c i ∧ c i ≤ 10006) ∧ rDep c i < 31) ∨ (c i = 10010 ∧ 1 ≤ rDep c i) ∨ ((10011 ≤ c i ∧ c i ≤ 10018) ∧ 2 ≤ rDep c i)) : ∀ i, i ≤ n → ∀ j, j < rDep c i → rRow c a r i j = rRow c a r' i j := by
  intro i
  induction i with
  | zero => intro _ j hj; exact absurd hj (Nat.not_lt_zero _)
  | succ i ih =>
    intro hi j hj
    have IH := ih (by omega)
    show rStep c a (rDep c i) (rRow c a r i) i j = rStep c a (rDep c i) (rRow c a r' i) i j
    have hj : j < (if c i < 10010 then rDep c i + 1 else if c i = 10010 then rDep c i else rDep c i - 1) := hj
    unfold rStep
    rcases ok i (by omega) with ⟨⟨h1, h2⟩, h3⟩ | ⟨h1, h2⟩ | ⟨⟨h1, h2⟩, h3⟩
    · have hl : c i < 10010 := by
        rw [Int32.lt_iff_toInt_lt]
        rw [Int32.le_iff_toInt_le] at h2
        have e1 : (10006 : Int32).toInt = 10006 := rfl
        have e2 : (10010 : Int32).toInt = 10010 := rfl
        omega
      rw [if_pos hl] at hj ⊢
      rw [if_pos hl]
      unfold upd
      by_cases hd : j = rDep c i
      · rw [if_pos hd, if_pos hd]
      · rw [if_neg hd, if_neg hd]
        exact IH j (by omega)
    · have hl : ¬ c i < 10010 := by rw [h1]; decide
      rw [if_neg hl, if_pos h1] at hj ⊢
      rw [if_neg hl, if_pos h1]
      unfold upd
      by_cases hd : j = rDep c i - 1
      · rw [if_pos hd, if_pos hd, IH (rDep c i - 1) (by omega)]
      · rw [if_neg hd, if_neg hd]
        exact IH j (by omega)
    · have e1 : (10011 : Int32).toInt = 10011 := rfl
      have e2 : (10010 : Int32).toInt = 10010 := rfl
      have hl : ¬ c i < 10010 := by
        rw [Int32.lt_iff_toInt_lt]
        rw [Int32.le_iff_toInt_le] at h1
        omega
      have hn : ¬ c i = 10010 := fun q => by
        rw [q] at h1
        exact absurd h1 (by decide)
      rw [if_neg hl, if_neg hn] at hj ⊢
      rw [if_neg hl, if_neg hn]
      unfold upd
      by_cases hd : j = rDep c i - 2
      · rw [if_pos hd, if_pos hd, IH (rDep c i - 2) (by omega), IH (rDep c i - 1) (by omega)]
      · rw [if_neg hd, if_neg hd]
        exact IH j (by omega)
theorem rDep_lt {c : Nat → Int32} {n : Nat} (ok : ∀ i, i < n → ((0 ≤ c i ∧ c i ≤ 10006) ∧ rDep c i < 31) ∨ (c i = 10010 ∧ 1 ≤ rDep c i) ∨ ((10011 ≤ c i ∧ c i ≤ 10018) ∧ 2 ≤ rDep c i)) : ∀ i, i ≤ n → rDep c i ≤ 31 := by
  intro i
  induction i with
  | zero => intro _; exact Nat.zero_le _
  | succ i ih =>
    intro hi
    have IH := ih (by omega)
    show (if c i < 10010 then rDep c i + 1 else if c i = 10010 then rDep c i else rDep c i - 1) ≤ 31
    rcases ok i (by omega) with ⟨⟨h1, h2⟩, h3⟩ | ⟨h1, h2⟩ | ⟨⟨h1, h2⟩, h3⟩
    · by_cases hl : c i < 10010
      · rw [if_pos hl]
        omega
      · rw [if_neg hl]
        by_cases hn : c i = 10010
        · rw [if_pos hn]; omega
        · rw [if_neg hn]; omega
    · rw [if_neg (by rw [h1]; decide), if_pos h1]
      exact IH
    · by_cases hl : c i < 10010
      · exfalso
        have e1 : (10011 : Int32).toInt = 10011 := rfl
        have e2 : (10010 : Int32).toInt = 10010 := rfl
        rw [Int32.lt_iff_toInt_lt] at hl
        rw [Int32.le_iff_toInt_le] at h1
        omega
      · rw [if_neg hl]
        by_cases hn : c i = 10010
        · rw [if_pos hn]; omega
        · rw [if_neg hn]; omega
/-- a node's row put anew -/
noncomputable def sN (S : gS) (a : Nat) (r : Nat → Int32) : gS := fun i => if i = a then r else S i
theorem sN_up (S : gS) (a b : Nat) (r : Nat → Int32) (x : Int32) : sU (sN S a r) a b x = sN S a (upd r b x) := by
  funext i
  unfold sU sN
  by_cases h : i = a
  · subst h
    rw [if_pos rfl, if_pos rfl]
    simp
  · rw [if_neg h, if_neg h, if_neg h]
theorem sN_self (S : gS) (a : Nat) : sN S a (S a) = S := by
  funext i
  unfold sN
  by_cases h : i = a
  · rw [if_pos h, h]
  · rw [if_neg h]
theorem sN_s {S : gS} {a : Nat} {r : Nat → Int32} : sN S a r a = r := if_pos rfl
theorem sN_n {S : gS} {a i : Nat} {r : Nat → Int32} (h : i ≠ a) : sN S a r i = S i := if_neg h
end

/-! part 42.arules -/
section
/-! a rule's worth on both sides -/
noncomputable def env (Z : Nat → Nat → Int32) (k : Nat) (si pu we ho gr : Int32) : Nat → Int32 := fun i => if i = 0 then si else if i = 1 then pu else if i = 2 then Z 1 k else if i = 3 then Z 3 k else if i = 4 then we else if i = 5 then ho else gr
noncomputable def rV (c : Nat → Int32) (n : Nat) (a : Nat → Int32) : Int32 := rRow c a (fun _ => 0) n 0
theorem x_valueOf {N T k i : Nat} {S : gS} (hk : k < 8) (h4 : S 51 4 = nI k) (hi : i ≤ 6) : fX10_valueOf N T (nI (10000 + i)) S = some (env (fun a => S (T + a)) k (S 51 1) (S 51 2) (S 51 6) (S 51 5) (S 51 0) i, S) := by
  unfold fX10_valueOf fX10_valueOf_b0
  rw [h4, if_neg (nI_pos (by omega))]
  unfold fX10_valueOf_b7
  rw [h4, if_neg (show ¬ (8 : Int32) ≤ nI k from nI_ge (b := 8) hk (by decide))]
  unfold fX10_valueOf_b16 fX10_valueOf_b21
  rcases (show i = 0 ∨ i = 1 ∨ i = 2 ∨ i = 3 ∨ i = 4 ∨ i = 5 ∨ i = 6 by omega) with rfl | rfl | rfl | rfl | rfl | rfl | rfl
  · rfl
  · rfl
  · show fX10_valueOf_b74 N T S = _
    unfold fX10_valueOf_b74
    rw [h4, chk_t (inb_t hk (by decide)), nI_clamp (by omega)]
    rfl
  · show fX10_valueOf_b92 N T S = _
    unfold fX10_valueOf_b92
    rw [h4, chk_t (inb_t hk (by decide)), nI_clamp (by omega)]
    rfl
  · rfl
  · rfl
  · rfl
theorem i32_nat {x : Int32} {m : Nat} (hm : m < 2 ^ 31) (h0 : 0 ≤ x) (h1 : x ≤ nI m) : ∃ v : Nat, v ≤ m ∧ x = nI v := nI_of2 (nI_toInt hm) (Int32.not_lt.mpr h0) h1
theorem i32_nat2 {x : Int32} {l m : Nat} (hl : l < 2 ^ 31) (hm : m < 2 ^ 31) (h0 : nI l ≤ x) (h1 : x ≤ nI m) : ∃ v : Nat, l ≤ v ∧ v ≤ m ∧ x = nI v := by
  obtain ⟨v, hv, rfl⟩ := i32_nat hm (Int32.le_trans (nI_pos' hl) h0) h1
  exact ⟨v, (nI_leI hl (by omega)).mp h0, hv, rfl⟩
section
variable {c a r : Nat → Int32} {i v : Nat}
theorem rD1 (h : c i = nI v) (hv : v < 10010) : rDep c (i + 1) = rDep c i + 1 := by
  show (if c i < 10010 then rDep c i + 1 else _) = _
  rw [h, if_pos (show nI v < 10010 from nI_lt (b := 10010) hv (by decide))]
theorem rD2 (h : c i = 10010) : rDep c (i + 1) = rDep c i := by
  show (if c i < 10010 then rDep c i + 1 else if c i = 10010 then rDep c i else rDep c i - 1) = _
  rw [h, if_neg (by decide), if_pos rfl]
theorem rD3 (h : c i = nI v) (h1 : 10011 ≤ v) (h2 : v ≤ 10018) : rDep c (i + 1) = rDep c i - 1 := by
  show (if c i < 10010 then rDep c i + 1 else if c i = 10010 then rDep c i else rDep c i - 1) = _
  rw [h, if_neg (show ¬ nI v < 10010 from nI_nlt (b := 10010) (by omega) (by omega)), if_neg (fun q => by have := (nI_eq (b := 10010) (by omega) (by omega)).mp q; omega)]
theorem rR1 (h : c i = nI v) (hv : v ≤ 9999) : rRow c a r (i + 1) = upd (rRow c a r i) (rDep c i) (nI v) := by
  show rStep c a (rDep c i) (rRow c a r i) i = _
  unfold rStep
  rw [h, if_pos (show nI v < 10010 from nI_lt (b := 10010) (by omega) (by decide)), if_pos (show nI v ≤ 9999 from nI_le (b := 9999) hv (by decide))]
theorem rR1b (h : c i = nI (10000 + v)) (hv : v ≤ 6) : rRow c a r (i + 1) = upd (rRow c a r i) (rDep c i) (a v) := by
  show rStep c a (rDep c i) (rRow c a r i) i = _
  unfold rStep
  rw [h, if_pos (show nI (10000 + v) < 10010 from nI_lt (b := 10010) (by omega) (by decide)), if_neg (show ¬ nI (10000 + v) ≤ 9999 from nI_ge (a := 9999) (by omega) (by omega)), nI_clamp (by omega), show 10000 + v - 10000 = v by omega]
theorem rR2 (h : c i = 10010) : rRow c a r (i + 1) = upd (rRow c a r i) (rDep c i - 1) (if rRow c a r i (rDep c i - 1) = 0 then 1 else 0) := by
  show rStep c a (rDep c i) (rRow c a r i) i = _
  unfold rStep
  rw [h, if_neg (by decide), if_pos rfl]
theorem rR3 (h : c i = nI v) (h1 : 10011 ≤ v) (h2 : v ≤ 10018) : rRow c a r (i + 1) = upd (rRow c a r i) (rDep c i - 2) (opS v (rRow c a r i (rDep c i - 2)) (rRow c a r i (rDep c i - 1))) := by
  show rStep c a (rDep c i) (rRow c a r i) i = _
  unfold rStep
  rw [h, if_neg (show ¬ nI v < 10010 from nI_nlt (b := 10010) (by omega) (by omega)), if_neg (fun q => by have := (nI_eq (b := 10010) (by omega) (by omega)).mp q; omega), nI_clamp (by omega)]
end
/-- what a code is, by numbers -/
theorem rCase {c : Nat → Int32} {n i : Nat} (ok : rOK c n) (hi : i < n) : (∃ v : Nat, v ≤ 9999 ∧ c i = nI v ∧ rDep c i < 31) ∨ (∃ v : Nat, v ≤ 6 ∧ c i = nI (10000 + v) ∧ rDep c i < 31) ∨ (c i = 10010 ∧ 1 ≤ rDep c i ∧ rDep c i ≤ 31) ∨ ∃ v : Nat, 10011 ≤ v ∧ v ≤ 10018 ∧ c i = nI v ∧ 2 ≤ rDep c i ∧ rDep c i ≤ 31 := by
  have hd := rDep_lt ok.1 i (by omega)
  rcases ok.1 i hi with ⟨⟨h1, h2⟩, h3⟩ | ⟨h1, h2⟩ | ⟨⟨h1, h2⟩, h3⟩
  · obtain ⟨v, hv, e⟩ := i32_nat (m := 10006) (by decide) h1 h2
    by_cases h9 : v ≤ 9999
    · exact Or.inl ⟨v, h9, e, h3⟩
    · exact Or.inr (Or.inl ⟨v - 10000, by omega, by rw [show 10000 + (v - 10000) = v by omega]; exact e, h3⟩)
  · exact Or.inr (Or.inr (Or.inl ⟨h1, h2, hd⟩))
  · obtain ⟨v, hv, hv2, e⟩ := i32_nat2 (l := 10011) (m := 10018) (by decide) (by decide) h1 h2
    exact Or.inr (Or.inr (Or.inr ⟨v, hv, hv2, e, h3, hd⟩))
theorem nI_m1 {d : Nat} (h : 1 ≤ d) : nI d - 1 = nI (d - 1) := by
  rw [show d = (d - 1) + 1 by omega, nI_pred]
  rfl
theorem nI_p1 {d : Nat} (h : 1 ≤ d) : nI d + (-1) = nI (d - 1) := by
  rw [show d = (d - 1) + 1 by omega, pk_m1]
  rfl
theorem x_worth_h {N T k0 n k : Nat} {S : gS} {a r : Nat → Int32} (hk : k < 8) (h4 : S 51 4 = nI k) (n1 : 51 ≠ k0 + 2) (n2 : T + 1 ≠ k0 + 2) (n3 : T + 3 ≠ k0 + 2) (hx : xN (k0 + 2) = 31) (hn : S k0 3 = nI n) (h7 : n ≤ 700) (ok : rOK (S (k0 + 1)) n) (ha : a = env (fun a => S (T + a)) k (S 51 1) (S 51 2) (S 51 6) (S 51 5) (S 51 0)) : ∀ (m i fuel : Nat), i + m = n → m < fuel →
    fX4_worth_h5 N fuel k0 T (nI (rDep (S (k0 + 1)) i)) (nI i) (sN S (k0 + 2) (rRow (S (k0 + 1)) a r i)) = some (if rDep (S (k0 + 1)) n = 0 then 0 else rRow (S (k0 + 1)) a r n 0, sN S (k0 + 2) (rRow (S (k0 + 1)) a r n)) := by
  intro m
  induction m with
  | zero =>
    intro i fuel h1 h2
    obtain ⟨f, rfl⟩ : ∃ f, fuel = f + 1 := ⟨fuel - 1, by omega⟩
    have : i = n := by omega
    subst this
    show fX4_worth_b5 N _ k0 T _ (nI i) _ = _
    unfold fX4_worth_b5
    rw [sN_n (show k0 ≠ k0 + 2 by omega), hn, if_pos (nI_le (Nat.le_refl _) (by omega))]
    unfold fX4_worth_b161
    have hd := rDep_lt ok.1 i (Nat.le_refl _)
    by_cases h0 : rDep (S (k0 + 1)) i = 0
    · rw [h0, if_pos rfl]
      rfl
    · rw [if_neg (nI_ne0 (by omega) (by omega)), if_neg h0]
      unfold fX4_worth_b169
      rw [sN_s]
      rfl
  | succ m ih =>
    intro i fuel h1 h2
    obtain ⟨f, rfl⟩ : ∃ f, fuel = f + 1 := ⟨fuel - 1, by omega⟩
    have IH := ih (i + 1) f (by omega) (by omega)
    show fX4_worth_b5 N (fX4_worth_h5 N f) k0 T _ (nI i) _ = _
    unfold fX4_worth_b5
    rw [sN_n (show k0 ≠ k0 + 2 by omega), hn, if_neg (nI_ge (by omega) (by omega))]
    unfold fX4_worth_b14
    rw [sN_n (show k0 + 1 ≠ k0 + 2 by omega), chk_t (inb_t (by omega) (by decide)), nI_clamp (by omega)]
    rcases rCase ok (show i < n by omega) with ⟨v, v1, e, d1⟩ | ⟨v, v1, e, d1⟩ | ⟨e, d1, d2⟩ | ⟨v, v1, v2, e, d1, d2⟩
    · rw [rD1 e (by omega), rR1 e v1] at IH
      rw [e, if_neg (show ¬ (10010 : Int32) ≤ nI v from nI_ge (b := 10010) (by omega) (by decide))]
      unfold fX4_worth_b31
      rw [if_neg (show ¬ (31 : Int32) ≤ nI (rDep (S (k0 + 1)) i) from nI_ge (b := 31) d1 (by decide))]
      unfold fX4_worth_b40
      rw [if_neg (show ¬ (9999 : Int32) < nI v from nI_nlt (a := 9999) v1 (by decide))]
      unfold fX4_worth_b53 fX4_worth_b65
      rw [hx, chk_t (inb_t (by omega) (by decide)), nI_clamp (by omega)]
      dsimp only [lt]
      unfold fX4_worth_b155
      rw [sN_up, nI_1, nI_1]
      exact IH
    · rw [rD1 e (by omega), rR1b e v1] at IH
      rw [e, if_neg (show ¬ (10010 : Int32) ≤ nI (10000 + v) from nI_ge (b := 10010) (by omega) (by decide))]
      unfold fX4_worth_b31
      rw [if_neg (show ¬ (31 : Int32) ≤ nI (rDep (S (k0 + 1)) i) from nI_ge (b := 31) d1 (by decide))]
      unfold fX4_worth_b40
      rw [if_pos (show (9999 : Int32) < nI (10000 + v) from nI_lt (a := 9999) (by omega) (by omega))]
      unfold fX4_worth_b58
      rw [bnd_t (x_valueOf (T := T) hk (by rw [sN_n n1]; exact h4) v1)]
      unfold fX4_worth_b65
      rw [hx, chk_t (inb_t (by omega) (by decide)), nI_clamp (by omega)]
      dsimp only [lt]
      unfold fX4_worth_b155
      rw [sN_up, nI_1, nI_1, sN_n n1]
      have e9 : env (fun a_1 => sN S (k0 + 2) (rRow (S (k0 + 1)) a r i) (T + a_1)) k (S 51 1) (S 51 2) (S 51 6) (S 51 5) (S 51 0) v = a v := by
        rw [ha]
        unfold env
        dsimp only
        rw [sN_n n2, sN_n n3]
      rw [e9]
      exact IH
    · rw [rD2 e, rR2 e] at IH
      rw [e, if_pos (by decide)]
      unfold fX4_worth_b72
      rw [if_pos rfl]
      unfold fX4_worth_b80
      rw [if_neg (show ¬ nI (rDep (S (k0 + 1)) i) < 1 from nI_nlt (b := 1) d1 (by omega))]
      unfold fX4_worth_b85
      rw [nI_m1 d1, chk_t (inb_t (by omega) (by decide)), nI_clamp (by omega), sN_s]
      by_cases h0 : rRow (S (k0 + 1)) a r i (rDep (S (k0 + 1)) i - 1) = 0
      · rw [if_pos h0] at IH ⊢
        unfold fX4_worth_b103 fX4_worth_b108
        rw [hx, chk_t (inb_t (by omega) (by decide)), nI_clamp (by omega)]
        dsimp only [lt]
        unfold fX4_worth_b155
        rw [sN_up, nI_1]
        exact IH
      · rw [if_neg h0] at IH ⊢
        unfold fX4_worth_b107 fX4_worth_b108
        rw [hx, chk_t (inb_t (by omega) (by decide)), nI_clamp (by omega)]
        dsimp only [lt]
        unfold fX4_worth_b155
        rw [sN_up, nI_1]
        exact IH
    · rw [rD3 e v1 v2, rR3 e v1 v2] at IH
      rw [e, if_pos (show (10010 : Int32) ≤ nI v from nI_le (a := 10010) (by omega) (by omega))]
      unfold fX4_worth_b72
      rw [if_neg (fun q => by have := (nI_eq (b := 10010) (by omega) (by omega)).mp q; omega)]
      unfold fX4_worth_b112
      rw [if_neg (show ¬ nI v ≤ 10010 from nI_ge (a := 10010) (by omega) (by omega))]
      unfold fX4_worth_b120
      rw [if_neg (show ¬ nI (rDep (S (k0 + 1)) i) < 2 from nI_nlt (b := 2) d1 (by omega))]
      unfold fX4_worth_b125
      rw [nI_p1 (by omega), nI_m1 (by omega), chk_t (inb_t (by omega) (by decide)), chk_t (inb_t (by omega) (by decide)), nI_clamp (by omega), nI_clamp (by omega), sN_s, bnd_t (x_join v1 v2), chk_t (inb_t (by omega) (by decide))]
      dsimp only [lt]
      unfold fX4_worth_b155
      rw [sN_up, nI_1, show rDep (S (k0 + 1)) i - 1 - 1 = rDep (S (k0 + 1)) i - 2 by omega]
      exact IH
theorem rV_any {c a r : Nat → Int32} {n : Nat} (ok : rOK c n) (h0 : n ≠ 0) : rDep c n ≠ 0 ∧ rRow c a r n 0 = rV c n a := by
  have h1 : 1 ≤ rDep c n := by
    rcases ok.2 with h | h
    · exact absurd h h0
    · exact h
  exact ⟨by omega, rRow_eq ok.1 n (Nat.le_refl _) 0 (by omega)⟩
theorem x_worth {N T k0 n k : Nat} {S : gS} (hk : k < 8) (h4 : S 51 4 = nI k) (n1 : 51 ≠ k0 + 2) (n2 : T + 1 ≠ k0 + 2) (n3 : T + 3 ≠ k0 + 2) (hx : xN (k0 + 2) = 31) (hn : S k0 3 = nI n) (h7 : n ≤ 700) (h0 : n ≠ 0) (ok : rOK (S (k0 + 1)) n) (hN : 700 < N) : ∃ r, fX4_worth N k0 T S = some (rV (S (k0 + 1)) n (env (fun a => S (T + a)) k (S 51 1) (S 51 2) (S 51 6) (S 51 5) (S 51 0)), sN S (k0 + 2) r) := by
  have h := x_worth_h (N := N) (r := S (k0 + 2)) hk h4 n1 n2 n3 hx hn h7 ok rfl n 0 N (by omega) (by omega)
  have e0 : sN S (k0 + 2) (rRow (S (k0 + 1)) (env (fun a => S (T + a)) k (S 51 1) (S 51 2) (S 51 6) (S 51 5) (S 51 0)) (S (k0 + 2)) 0) = S := sN_self S (k0 + 2)
  rw [e0] at h
  obtain ⟨q1, q2⟩ := rV_any (a := env (fun a => S (T + a)) k (S 51 1) (S 51 2) (S 51 6) (S 51 5) (S 51 0)) (r := S (k0 + 2)) ok h0
  rw [if_neg q1, q2] at h
  exact ⟨_, h⟩
theorem sgn_n {v : Nat} (hv : v ≤ 9999) : sgn (nI v) = nI v := by
  unfold sgn
  rw [if_pos (show nI v ≤ 9999 from nI_le (b := 9999) hv (by decide))]
theorem m_value_h {N nd n : Nat} {S : gS} {c r : Nat → Int32} (n1 : nd ≠ 43) (hx : mN nd = 1400) (h7 : n ≤ 700) (ok : rOK c n) (hc : ∀ i, i < n → S nd i = sgn (c i)) : ∀ (m i fuel : Nat), i + m = n → m < fuel →
    fX12_valueNow_h5 N fuel nd (nI n) (nI (rDep c i)) (nI i) (sN S 43 (rRow c (S 42) r i)) = some (rRow c (S 42) r n 0, sN S 43 (rRow c (S 42) r n)) := by
  intro m
  induction m with
  | zero =>
    intro i fuel h1 h2
    obtain ⟨f, rfl⟩ : ∃ f, fuel = f + 1 := ⟨fuel - 1, by omega⟩
    have : i = n := by omega
    subst this
    show fX12_valueNow_b5 N _ nd _ _ (nI i) _ = _
    unfold fX12_valueNow_b5
    rw [if_pos (nI_le (Nat.le_refl _) (by omega))]
    unfold fX12_valueNow_b125
    rw [sN_s]
  | succ m ih =>
    intro i fuel h1 h2
    obtain ⟨f, rfl⟩ : ∃ f, fuel = f + 1 := ⟨fuel - 1, by omega⟩
    have IH := ih (i + 1) f (by omega) (by omega)
    show fX12_valueNow_b5 N (fX12_valueNow_h5 N f) nd _ _ (nI i) _ = _
    unfold fX12_valueNow_b5
    rw [if_neg (nI_ge (by omega) (by omega))]
    unfold fX12_valueNow_b11
    rw [sN_n n1, hx, chk_t (inb_t (by omega) (by decide)), nI_clamp (by omega), hc i (by omega)]
    rcases rCase ok (show i < n by omega) with ⟨v, v1, e, d1⟩ | ⟨v, v1, e, d1⟩ | ⟨e, d1, d2⟩ | ⟨v, v1, v2, e, d1, d2⟩
    · rw [rD1 e (by omega), rR1 e v1] at IH
      rw [e, sgn_n v1, if_neg (show ¬ nI v ≤ -20 from fun q => by
        rw [Int32.le_iff_toInt_le, nI_toInt (by omega)] at q
        have e0 : (-20 : Int32).toInt = -20 := rfl
        omega)]
      unfold fX12_valueNow_b24
      rw [if_neg (nI_pos (by omega))]
      unfold fX12_valueNow_b34 fX12_valueNow_b48
      rw [chk_t (inb_t (by omega) (by decide)), nI_clamp (by omega)]
      dsimp only [lt]
      unfold fX12_valueNow_b119
      rw [sN_up, nI_1, nI_1]
      exact IH
    · rw [rD1 e (by omega), rR1b e v1] at IH
      rw [e]
      have hs : ¬ sgn (nI (10000 + v)) ≤ -20 ∧ sgn (nI (10000 + v)) < 0 ∧ (-1 : Int32) - sgn (nI (10000 + v)) = nI v := by
        rcases (show v = 0 ∨ v = 1 ∨ v = 2 ∨ v = 3 ∨ v = 4 ∨ v = 5 ∨ v = 6 by omega) with rfl | rfl | rfl | rfl | rfl | rfl | rfl <;> decide +kernel
      rw [if_neg hs.1]
      unfold fX12_valueNow_b24
      rw [if_pos hs.2.1]
      unfold fX12_valueNow_b39
      rw [hs.2.2, chk_t (inb_t (by omega) (by decide)), nI_clamp (n := v) (by omega), sN_n (show 42 ≠ 43 by decide)]
      unfold fX12_valueNow_b48
      rw [chk_t (inb_t (by omega) (by decide)), nI_clamp (by omega)]
      dsimp only [lt]
      unfold fX12_valueNow_b119
      rw [sN_up, nI_1, nI_1]
      exact IH
    · rw [rD2 e, rR2 e] at IH
      rw [e, show sgn 10010 = -28 from rfl, if_pos (by decide)]
      unfold fX12_valueNow_b55
      rw [if_pos rfl]
      unfold fX12_valueNow_b62
      rw [nI_m1 d1, chk_t (inb_t (by omega) (by decide)), nI_clamp (by omega), sN_s]
      by_cases h0 : rRow c (S 42) r i (rDep c i - 1) = 0
      · rw [if_pos h0] at IH ⊢
        unfold fX12_valueNow_b84 fX12_valueNow_b85
        rw [chk_t (inb_t (by omega) (by decide)), nI_clamp (by omega)]
        dsimp only [lt]
        unfold fX12_valueNow_b119
        rw [sN_up, nI_1]
        exact IH
      · rw [if_neg h0] at IH ⊢
        unfold fX12_valueNow_b80 fX12_valueNow_b85
        rw [chk_t (inb_t (by omega) (by decide)), nI_clamp (by omega)]
        dsimp only [lt]
        unfold fX12_valueNow_b119
        rw [sN_up, nI_1]
        exact IH
    · rw [rD3 e v1 v2, rR3 e v1 v2] at IH
      rw [e]
      have hs : sgn (nI v) ≤ -20 ∧ ¬ sgn (nI v) = -28 := by
        rcases (show v = 10011 ∨ v = 10012 ∨ v = 10013 ∨ v = 10014 ∨ v = 10015 ∨ v = 10016 ∨ v = 10017 ∨ v = 10018 by omega) with rfl | rfl | rfl | rfl | rfl | rfl | rfl | rfl <;> decide +kernel
      rw [if_pos hs.1]
      unfold fX12_valueNow_b55
      rw [if_neg hs.2]
      unfold fX12_valueNow_b89
      rw [nI_p1 (by omega), nI_m1 (by omega), chk_t (inb_t (by omega) (by decide)), chk_t (inb_t (by omega) (by decide)), nI_clamp (by omega), nI_clamp (by omega), sN_s, bnd_t (m_reckon v1 v2), chk_t (inb_t (by omega) (by decide))]
      dsimp only [lt]
      unfold fX12_valueNow_b119
      rw [sN_up, nI_1, show rDep c i - 1 - 1 = rDep c i - 2 by omega]
      exact IH
theorem m_valueNow {N nd n : Nat} {S : gS} {c : Nat → Int32} (n1 : nd ≠ 43) (hx : mN nd = 1400) (h7 : n ≤ 700) (h0 : n ≠ 0) (ok : rOK c n) (hc : ∀ i, i < n → S nd i = sgn (c i)) (hN : 700 < N) : ∃ r, fX12_valueNow N nd (nI n) S = some (rV c n (S 42), sN S 43 r) := by
  have h := m_value_h (N := N) (r := S 43) n1 hx h7 ok hc n 0 N (by omega) (by omega)
  have e0 : sN S 43 (rRow c (S 42) (S 43) 0) = S := sN_self S 43
  rw [e0] at h
  rw [(rV_any (a := S 42) (r := S 43) ok h0).2] at h
  exact ⟨_, h⟩
theorem rV_env {c : Nat → Int32} {n : Nat} {a a' : Nat → Int32} (ok : rOK c n) (h : ∀ i, i ≤ 6 → (∃ j, j < n ∧ c j = nI (10000 + i)) → a i = a' i) : rV c n a = rV c n a' := by
  have H : ∀ i, i ≤ n → rRow c a (fun _ => 0) i = rRow c a' (fun _ => 0) i := by
    intro i
    induction i with
    | zero => intro _; rfl
    | succ i ih =>
      intro hi
      have IH := ih (by omega)
      rcases rCase ok (show i < n by omega) with ⟨v, v1, e, d1⟩ | ⟨v, v1, e, d1⟩ | ⟨e, d1, d2⟩ | ⟨v, v1, v2, e, d1, d2⟩
      · rw [rR1 e v1, rR1 e v1, IH]
      · rw [rR1b e v1, rR1b e v1, IH, h v v1 ⟨i, by omega, e⟩]
      · rw [rR2 e, rR2 e, IH]
      · rw [rR3 e v1 v2, rR3 e v1 v2, IH]
  unfold rV
  rw [H n (Nat.le_refl _)]
theorem rV_env2 {c : Nat → Int32} {n : Nat} {a a' : Nat → Int32} (ok : rOK c n) (h : ∀ i, i ≤ 6 → a i = a' i) : rV c n a = rV c n a' := rV_env ok (fun i hi _ => h i hi)
end
