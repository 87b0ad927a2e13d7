/-! SMALL METHODS of both sides, as maps -/
theorem chk_t {α : Type} {b : Bool} {x : Option α} (h : b = true) : chk b x = x := by subst h; rfl
theorem bnd_t {α β : Type} {x : Option α} {a : α} {f : α → Option β} (h : x = some a) : bnd x f = f a := by subst h; rfl
theorem bnx_t {α : Type} {x : Option (Nat × α × gS)} {a : Nat × α × gS} {f : Nat × α × gS → Option tR} (h : x = some a) (h0 : a.1 = 0) : bnx x f = f a := by subst h; exact if_pos h0
theorem bnx_x {α : Type} {x : Option (Nat × α × gS)} {a : Nat × α × gS} {f : Nat × α × gS → Option tR} (h : x = some a) (h0 : a.1 ≠ 0) : bnx x f = some (a.1, 0, a.2.2) := by subst h; exact if_neg h0
theorem inb_t {k n : Nat} (h : k < n) (hn : n < 2 ^ 31) : inb (nI k) n = true := decide_eq_true (vp_in_nI h hn)
theorem inb_f1 {x : Int32} {n : Nat} (h : x < 0) : inb x n = false := decide_eq_false (fun q => q (Or.inl h))
theorem inb_f2 {x : Int32} {n : Nat} (hn : n < 2 ^ 31) (h : nI n ≤ x) : inb x n = false := by
  refine decide_eq_false (fun q => ?_)
  obtain ⟨j, hj, rfl⟩ := vp_in_of q hn
  exact nI_ge hj hn h
theorem inb_of {x : Int32} {n : Nat} (h : inb x n = true) (hn : n < 2 ^ 31) : ∃ j : Nat, j < n ∧ x = nI j := vp_in_of (inb_vp h) hn
theorem inb_iff {x : Int32} {n : Nat} : inb x n = true ↔ 0 ≤ x.toInt ∧ x.toInt < n := by
  rw [← vp_in_iff]
  exact ⟨inb_vp, fun h => decide_eq_true h⟩
theorem nz_t {n : Nat} (h0 : 0 < n) (h : n < 2 ^ 31) : nz (nI n) = true := decide_eq_true (nI_ne0 h0 h)
noncomputable def iv (b : Bool) : Int32 := if b = true then 1 else 0
theorem iv_0 {b : Bool} : iv b = 0 ↔ b = false := by cases b <;> simp [iv]
theorem zb_iv {b : Bool} : zb (iv b) = true := by cases b <;> rfl
theorem x_isGuild {N T n : Nat} {S : gS} {x : Int32} (h : S T 5 = nI n) (hn : n < 2 ^ 31) : fX9_isGuild N T x S = some (iv (inb x n), S) := by
  unfold fX9_isGuild fX9_isGuild_b0
  rcases pk_ix x hn with h1 | h1 | ⟨j, hj, rfl⟩
  · rw [if_pos h1, inb_f1 h1]
    rfl
  · rw [inb_f2 hn h1]
    by_cases h2 : x < 0
    · rw [if_pos h2]
      rfl
    · rw [if_neg h2]
      unfold fX9_isGuild_b4
      rw [h, if_pos h1]
      rfl
  · rw [inb_t hj hn, if_neg (nI_pos (by omega))]
    unfold fX9_isGuild_b4
    rw [h, if_neg (nI_ge hj hn)]
    rfl
theorem x_isGrotto {N T n : Nat} {S : gS} {x : Int32} (h : S T 0 = nI n) (hn : n < 2 ^ 31) : fX9_isGrotto N T x S = some (iv (inb x n), S) := by
  unfold fX9_isGrotto fX9_isGrotto_b0
  rcases pk_ix x hn with h1 | h1 | ⟨j, hj, rfl⟩
  · rw [if_pos h1, inb_f1 h1]
    rfl
  · rw [inb_f2 hn h1]
    by_cases h2 : x < 0
    · rw [if_pos h2]
      rfl
    · rw [if_neg h2]
      unfold fX9_isGrotto_b4
      rw [h, if_pos h1]
      rfl
  · rw [inb_t hj hn, if_neg (nI_pos (by omega))]
    unfold fX9_isGrotto_b4
    rw [h, if_neg (nI_ge hj hn)]
    rfl
noncomputable def wth (x a b : Int32) : Bool := decide (a ≤ x) && decide (x ≤ b)
theorem nlt_le {a b : Int32} : ¬ a < b ↔ b ≤ a := Int32.not_lt
theorem x_isWithin {N : Nat} {S : gS} {x a b : Int32} : fX11_isWithin N x a b S = some (iv (wth x a b), S) := by
  unfold fX11_isWithin fX11_isWithin_b0 wth
  by_cases h1 : x < a
  · rw [if_pos h1, decide_eq_false (p := a ≤ x) (fun h => nlt_le.mpr h h1)]
    rfl
  · rw [if_neg h1, decide_eq_true (nlt_le.mp h1)]
    unfold fX11_isWithin_b5
    by_cases h2 : b < x
    · rw [if_pos h2, decide_eq_false (p := x ≤ b) (fun h => nlt_le.mpr h h2)]
      rfl
    · rw [if_neg h2, decide_eq_true (nlt_le.mp h2)]
      rfl
theorem cmp_lt {x y : Int64} : lg_cmp x y < 0 ↔ x < y := by
  unfold lg_cmp
  by_cases h1 : x > y
  · rw [if_pos h1]
    exact ⟨fun h => absurd h (by decide), fun h => absurd h1 (Int64.not_lt.mpr (Int64.le_of_lt h))⟩
  · rw [if_neg h1]
    by_cases h2 : x = y
    · rw [if_pos h2]
      exact ⟨fun h => absurd h (by decide), fun h => absurd h (by rw [h2]; exact Int64.lt_irrefl)⟩
    · rw [if_neg h2]
      exact ⟨fun _ => Int64.lt_of_le_of_ne (Int64.not_lt.mp h1) h2, fun _ => by decide⟩
theorem cmp_gt {x y : Int64} : 0 < lg_cmp x y ↔ y < x := by
  unfold lg_cmp
  by_cases h1 : x > y
  · rw [if_pos h1]
    exact ⟨fun _ => h1, fun _ => by decide⟩
  · rw [if_neg h1]
    by_cases h2 : x = y
    · rw [if_pos h2]
      exact ⟨fun h => absurd h (by decide), fun h => absurd h h1⟩
    · rw [if_neg h2]
      exact ⟨fun h => absurd h (by decide), fun h => absurd h h1⟩
theorem i64_lt {a b : Int32} : a.toInt64 < b.toInt64 ↔ a < b := by
  rw [Int64.lt_iff_toInt_lt, Int32.lt_iff_toInt_lt, Int32.toInt_toInt64, Int32.toInt_toInt64]
theorem m_isIn {N : Nat} {S : gS} {x a b : Int32} : fX12_isIn N x.toInt64 a.toInt64 b.toInt64 S = some (iv (wth x a b), S) := by
  unfold fX12_isIn fX12_isIn_b0 wth
  by_cases h1 : x < a
  · rw [if_pos (cmp_lt.mpr (i64_lt.mpr h1)), decide_eq_false (p := a ≤ x) (fun h => nlt_le.mpr h h1)]
    rfl
  · rw [if_neg (fun h => h1 (i64_lt.mp (cmp_lt.mp h))), decide_eq_true (nlt_le.mp h1)]
    unfold fX12_isIn_b6
    by_cases h2 : b < x
    · rw [if_pos (cmp_gt.mpr (i64_lt.mpr h2)), decide_eq_false (p := x ≤ b) (fun h => nlt_le.mpr h h2)]
      rfl
    · rw [if_neg (fun h => h2 (i64_lt.mp (cmp_gt.mp h))), decide_eq_true (nlt_le.mp h2)]
      rfl
theorem m_isIn0 {N : Nat} {S : gS} {x b : Int32} : fX12_isIn N x.toInt64 0 b.toInt64 S = some (iv (wth x 0 b), S) := m_isIn (a := 0)
theorem wth_inb {x : Int32} {n : Nat} (hn : n < 2 ^ 30) : wth x 0 (nI n - 1) = inb x n := by
  have e : (nI n - 1).toInt = (n : Int) - 1 := pk_sub_toInt (a := n) (b := 1) hn (by decide)
  have h : wth x 0 (nI n - 1) = true ↔ inb x n = true := by
    rw [inb_iff]
    unfold wth
    rw [Bool.and_eq_true, decide_eq_true_iff, decide_eq_true_iff, Int32.le_iff_toInt_le, Int32.le_iff_toInt_le, e]
    have e0 : (0 : Int32).toInt = 0 := rfl
    rw [e0]
    omega
  cases h1 : wth x 0 (nI n - 1) with
  | true => exact (h.mp h1).symm
  | false =>
    cases h2 : inb x n with
    | true => rw [h.mpr h2] at h1; cases h1
    | false => rfl
theorem m_isGuild {N n : Nat} {S : gS} {x : Int32} (h : S 5 1 = nI n) (hn : n < 2 ^ 30) : fX12_isGuild N x S = some (iv (inb x n), S) := by
  unfold fX12_isGuild fX12_isGuild_b0
  rw [h, bnd_t m_isIn0, wth_inb hn]
  exact chk_t zb_iv
theorem m_isGrotto {N n : Nat} {S : gS} {x : Int32} (h : S 5 0 = nI n) (hn : n < 2 ^ 30) : fX12_isGrotto N x S = some (iv (inb x n), S) := by
  unfold fX12_isGrotto fX12_isGrotto_b0
  rw [h, bnd_t m_isIn0, wth_inb hn]
  exact chk_t zb_iv
theorem x_needGuild {N n : Nat} {S : gS} {x : Int32} (h : S (xtw S) 5 = nI n) (hn : n < 2 ^ 31) : fX11_needGuild N x S = some (if inb x n = true then 0 else 1, 0, S) := by
  unfold fX11_needGuild fX11_needGuild_b0
  dsimp only [lt]
  rw [bnd_t (x_isGuild h hn)]
  cases inb x n <;> rfl
theorem x_needGrotto {N n : Nat} {S : gS} {x : Int32} (h : S (xtw S) 0 = nI n) (hn : n < 2 ^ 31) : fX11_needGrotto N x S = some (if inb x n = true then 0 else 1, 0, S) := by
  unfold fX11_needGrotto fX11_needGrotto_b0
  dsimp only [lt]
  rw [bnd_t (x_isGrotto h hn)]
  cases inb x n <;> rfl
theorem x_needWhat {N : Nat} {S : gS} {x a : Int32} : fX11_needWhat N x a S = some (if wth x 0 a = true then 0 else 1, 0, S) := by
  unfold fX11_needWhat fX11_needWhat_b0
  rw [bnd_t x_isWithin]
  cases wth x 0 a <;> rfl
theorem x_needWithin {N : Nat} {S : gS} {x a b : Int32} : fX11_needWithin N x a b S = some (if wth x a b = true then 0 else 2, 0, S) := by
  unfold fX11_needWithin fX11_needWithin_b0
  rw [bnd_t x_isWithin]
  cases wth x a b <;> rfl
/-! bits -/
noncomputable def bt (x k : Int32) : Bool := decide (¬ ((x >>> (k &&& 31)) &&& 1 : Int32) = 0)
theorem and1 (x : Int32) : (x &&& 1) = 0 ∨ (x &&& 1) = 1 := by
  obtain ⟨j, hj, e⟩ := vp_in_of (pk_andIn x (m := 1) 1 rfl (by decide)) (by decide)
  rw [e]
  rcases (show j = 0 ∨ j = 1 by omega) with rfl | rfl
  · exact Or.inl rfl
  · exact Or.inr rfl
theorem x_isOneOf {N : Nat} {S : gS} {x k : Int32} : fX11_isOneOf N x k S = some (iv (bt x k), S) := by
  unfold fX11_isOneOf fX11_isOneOf_b0 bt
  by_cases h : ((x >>> (k &&& 31)) &&& 1 : Int32) = 0
  · rw [if_pos h, decide_eq_false (fun q => q h)]
    rfl
  · rw [if_neg h, decide_eq_true h]
    rfl
theorem m_isOf {N : Nat} {S : gS} {x k : Int32} : fX12_isOf N x k S = some (iv (bt x k), S) := by
  unfold fX12_isOf fX12_isOf_b0 bt
  rcases and1 (x >>> (k &&& 31)) with h | h
  · rw [h, decide_eq_false (fun q => q rfl)]
    rfl
  · rw [h, decide_eq_true (by decide)]
    rfl
/-! WET, THE BOUND, what drips -/
noncomputable def wetS (n : Nat) (row : Nat → Int32) (h : Nat) : Int32 := if n = 0 then 5 else row (h % n)
theorem x_wetOf {N T n h : Nat} {S : gS} (hw : S T 10 = nI n) (hn : n ≤ 8) (hh : h < 2 ^ 31) : fX9_wetOf N T (nI h) S = some (wetS n (S (T + 9)) h, S) := by
  unfold fX9_wetOf fX9_wetOf_b0 wetS
  by_cases h0 : n = 0
  · subst h0
    rw [hw]
    rfl
  · have h1 : ¬ nI n < 1 := nI_nlt (a := n) (b := 1) (by omega) (by omega)
    rw [hw, if_neg h1, if_neg h0]
    unfold fX9_wetOf_b8
    rw [if_pos (nI_pos' hh)]
    unfold fX9_wetOf_b16
    have hm : h % n < n := Nat.mod_lt _ (by omega)
    rw [hw, pk_rem hh (by omega) (by omega), chk_t (nz_t (by omega) (by omega)), chk_t (inb_t (by omega) (by decide)), nI_clamp (by omega)]
    rfl
theorem m_wetOf {N n h : Nat} {S : gS} (hw : S 5 3 = nI n) (hn : n ≤ 8) (hh : h < 2 ^ 31) (h37 : S 99 37 = nI h) (h41 : S 99 41 = -1) : fX12_wetOf N S = some (wetS n (S 14) h, S) := by
  unfold fX12_wetOf fX12_wetOf_b0 wetS
  rw [if_pos h41]
  unfold fX12_wetOf_b15
  by_cases h0 : n = 0
  · subst h0
    rw [hw]
    rfl
  · rw [hw, if_neg (nI_ne0 (by omega) (by omega)), if_neg h0]
    unfold fX12_wetOf_b28
    have hm : h % n < n := Nat.mod_lt _ (by omega)
    rw [hw, h37, pk_rem hh (by omega) (by omega), chk_t (nz_t (by omega) (by omega)), chk_t (inb_t (by omega) (by decide)), nI_clamp (by omega)]
    rfl
/-- WET is told ahead (drought, years) -/
theorem m_wetOf2 {N : Nat} {S : gS} (h41 : ¬ S 99 41 = -1) : fX12_wetOf N S = some (S 99 41, S) := by
  unfold fX12_wetOf fX12_wetOf_b0
  rw [if_neg h41]
  rfl
noncomputable def bndS (b : Nat) : Int32 := if b = 0 then 70 else nI b
theorem x_mostSin {N T b : Nat} {S : gS} (h : S T 12 = nI b) (hb : b < 2 ^ 31) : fX9_mostSin N T S = some (bndS b, S) := by
  unfold fX9_mostSin fX9_mostSin_b0 bndS
  have h1 : fX9_isBoundTold N T S = some (if b = 0 then 0 else 1, S) := by
    unfold fX9_isBoundTold fX9_isBoundTold_b0
    by_cases h0 : b = 0
    · subst h0
      rw [h]
      rfl
    · rw [h, if_neg (nI_ne0 (by omega) hb), if_neg h0]
      rfl
  rw [bnd_t h1]
  by_cases h0 : b = 0
  · rw [if_pos h0, if_pos h0]
    rfl
  · rw [if_neg h0, if_neg h0]
    show fX9_mostSin_b7 N T S = _
    unfold fX9_mostSin_b7
    rw [h]
    rfl
