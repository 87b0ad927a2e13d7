/-! loops over the GUILDS that only look -/
noncomputable def hoR (row : Nat → Int32) (x : Int32) : Nat → Nat → Int32
  | 0, _ => -1
  | m + 1, k => if row k = x then nI k else hoR row x m (k + 1)
theorem hoR_eq {r r' : Nat → Int32} {x : Int32} : ∀ (m k : Nat), (∀ i, k ≤ i → i < k + m → r i = r' i) → hoR r x m k = hoR r' x m k := by
  intro m
  induction m with
  | zero => intro k h; rfl
  | succ m ih =>
    intro k h
    show (if r k = x then nI k else hoR r x m (k + 1)) = if r' k = x then nI k else hoR r' x m (k + 1)
    rw [h k (Nat.le_refl _) (by omega), ih (k + 1) (fun i h1 h2 => h i (by omega) (by omega))]
noncomputable def hbR (row : Nat → Int32) : Nat → Nat → Int32 → Int32
  | 0, _, acc => acc
  | m + 1, k, acc => hbR row m (k + 1) (if row k = -1 then acc else acc ||| ((1 : Int32) <<< (row k &&& 31)))
theorem hbR_eq {r r' : Nat → Int32} : ∀ (m k : Nat) (acc : Int32), (∀ i, k ≤ i → i < k + m → r i = r' i) → hbR r m k acc = hbR r' m k acc := by
  intro m
  induction m with
  | zero => intro k acc h; rfl
  | succ m ih =>
    intro k acc h
    show hbR r m (k + 1) _ = hbR r' m (k + 1) _
    rw [h k (Nat.le_refl _) (by omega)]
    exact ih (k + 1) _ (fun i h1 h2 => h i (by omega) (by omega))
section
variable {N n k0 k1 : Nat} {S : gS}
theorem x_sins_h (hn : S k1 5 = nI n) (h6 : n ≤ 6) : ∀ (m k : Nat) (acc : Int32) (fuel : Nat), k + m = n → m < fuel → fX7_sins_h4 N fuel k0 k1 acc (nI k) S = some (sumR (S (k0 + 1)) m k acc, S) := by
  intro m
  induction m with
  | zero =>
    intro k acc fuel h1 h2
    obtain ⟨f, rfl⟩ : ∃ f, fuel = f + 1 := ⟨fuel - 1, by omega⟩
    show fX7_sins_b4 N _ k0 k1 acc (nI k) S = _
    unfold fX7_sins_b4
    rw [hn, if_pos (nI_le (by omega) (by omega))]
    rfl
  | succ m ih =>
    intro k acc fuel h1 h2
    obtain ⟨f, rfl⟩ : ∃ f, fuel = f + 1 := ⟨fuel - 1, by omega⟩
    show fX7_sins_b4 N _ k0 k1 acc (nI k) S = _
    unfold fX7_sins_b4
    rw [hn, if_neg (nI_ge (by omega) (by omega))]
    unfold fX7_sins_b12
    rw [chk_t (inb_t (by omega) (by decide)), nI_clamp (by omega), nI_1]
    exact ih (k + 1) _ f (by omega) (by omega)
theorem m_sumOf_h (hn : S 5 1 = nI n) (h6 : n ≤ 6) (hk : mN k1 = 6) : ∀ (m k : Nat) (acc : Int32) (fuel : Nat), k + m = n → m < fuel → fX12_sumOf_h4 N fuel k1 acc (nI k) S = some (sumR (S k1) m k acc, S) := by
  intro m
  induction m with
  | zero =>
    intro k acc fuel h1 h2
    obtain ⟨f, rfl⟩ : ∃ f, fuel = f + 1 := ⟨fuel - 1, by omega⟩
    show fX12_sumOf_b4 N _ k1 acc (nI k) S = _
    unfold fX12_sumOf_b4
    rw [hn, if_pos (nI_le (by omega) (by omega))]
    rfl
  | succ m ih =>
    intro k acc fuel h1 h2
    obtain ⟨f, rfl⟩ : ∃ f, fuel = f + 1 := ⟨fuel - 1, by omega⟩
    show fX12_sumOf_b4 N _ k1 acc (nI k) S = _
    unfold fX12_sumOf_b4
    rw [hn, if_neg (nI_ge (by omega) (by omega))]
    unfold fX12_sumOf_b14
    rw [hk, chk_t (inb_t (by omega) (by decide)), nI_clamp (by omega), nI_1]
    exact ih (k + 1) _ f (by omega) (by omega)
theorem x_holderOf_h {x : Int32} (hn : S k1 5 = nI n) (h6 : n ≤ 6) : ∀ (m k : Nat) (fuel : Nat), k + m = n → m < fuel → fX7_holderOf_h2 N fuel k0 k1 x (nI k) S = some (hoR (S (k0 + 4)) x m k, S) := by
  intro m
  induction m with
  | zero =>
    intro k fuel h1 h2
    obtain ⟨f, rfl⟩ : ∃ f, fuel = f + 1 := ⟨fuel - 1, by omega⟩
    show fX7_holderOf_b2 N _ k0 k1 x (nI k) S = _
    unfold fX7_holderOf_b2
    rw [hn, if_pos (nI_le (by omega) (by omega))]
    rfl
  | succ m ih =>
    intro k fuel h1 h2
    obtain ⟨f, rfl⟩ : ∃ f, fuel = f + 1 := ⟨fuel - 1, by omega⟩
    show fX7_holderOf_b2 N _ k0 k1 x (nI k) S = _
    unfold fX7_holderOf_b2
    rw [hn, if_neg (nI_ge (by omega) (by omega))]
    unfold fX7_holderOf_b10
    rw [chk_t (inb_t (by omega) (by decide)), nI_clamp (by omega)]
    show _ = some ((if S (k0 + 4) k = x then nI k else hoR (S (k0 + 4)) x m (k + 1)), S)
    by_cases h : S (k0 + 4) k = x
    · rw [if_pos h, if_pos h]
      rfl
    · rw [if_neg h, if_neg h]
      unfold fX7_holderOf_b22
      rw [nI_1]
      exact ih (k + 1) f (by omega) (by omega)
theorem m_hirerOf_h {x : Int32} (hn : S 5 1 = nI n) (h6 : n ≤ 6) : ∀ (m k : Nat) (fuel : Nat), k + m = n → m < fuel → fX12_hirerOf_h2 N fuel x (nI k) S = some (hoR (S 35) x m k, S) := by
  intro m
  induction m with
  | zero =>
    intro k fuel h1 h2
    obtain ⟨f, rfl⟩ : ∃ f, fuel = f + 1 := ⟨fuel - 1, by omega⟩
    show fX12_hirerOf_b2 N _ x (nI k) S = _
    unfold fX12_hirerOf_b2
    rw [hn, if_pos (nI_le (by omega) (by omega))]
    rfl
  | succ m ih =>
    intro k fuel h1 h2
    obtain ⟨f, rfl⟩ : ∃ f, fuel = f + 1 := ⟨fuel - 1, by omega⟩
    show fX12_hirerOf_b2 N _ x (nI k) S = _
    unfold fX12_hirerOf_b2
    rw [hn, if_neg (nI_ge (by omega) (by omega))]
    unfold fX12_hirerOf_b12
    rw [chk_t (inb_t (by omega) (by decide)), nI_clamp (by omega)]
    show _ = some ((if S 35 k = x then nI k else hoR (S 35) x m (k + 1)), S)
    by_cases h : S 35 k = x
    · rw [if_pos h, if_pos h]
      rfl
    · rw [if_neg h, if_neg h]
      unfold fX12_hirerOf_b24
      rw [nI_1]
      exact ih (k + 1) f (by omega) (by omega)
theorem x_hiredBits_h (hn : S k1 5 = nI n) (h6 : n ≤ 6) : ∀ (m k : Nat) (acc : Int32) (fuel : Nat), k + m = n → m < fuel → fX7_hiredBits_h4 N fuel k0 k1 acc (nI k) S = some (hbR (S (k0 + 4)) m k acc, S) := by
  intro m
  induction m with
  | zero =>
    intro k acc fuel h1 h2
    obtain ⟨f, rfl⟩ : ∃ f, fuel = f + 1 := ⟨fuel - 1, by omega⟩
    show fX7_hiredBits_b4 N _ k0 k1 acc (nI k) S = _
    unfold fX7_hiredBits_b4
    rw [hn, if_pos (nI_le (by omega) (by omega))]
    rfl
  | succ m ih =>
    intro k acc fuel h1 h2
    obtain ⟨f, rfl⟩ : ∃ f, fuel = f + 1 := ⟨fuel - 1, by omega⟩
    show fX7_hiredBits_b4 N _ k0 k1 acc (nI k) S = _
    unfold fX7_hiredBits_b4
    rw [hn, if_neg (nI_ge (by omega) (by omega))]
    unfold fX7_hiredBits_b12
    rw [chk_t (inb_t (by omega) (by decide)), nI_clamp (by omega)]
    show _ = some (hbR (S (k0 + 4)) m (k + 1) (if S (k0 + 4) k = -1 then acc else _), S)
    by_cases h : S (k0 + 4) k = -1
    · rw [if_pos h, if_pos h]
      unfold fX7_hiredBits_b33
      rw [nI_1]
      exact ih (k + 1) _ f (by omega) (by omega)
    · rw [if_neg h, if_neg h]
      unfold fX7_hiredBits_b22
      rw [chk_t (inb_t (by omega) (by decide)), nI_clamp (by omega)]
      unfold fX7_hiredBits_b33
      rw [nI_1]
      exact ih (k + 1) _ f (by omega) (by omega)
theorem m_hiredNow_h (hn : S 5 1 = nI n) (h6 : n ≤ 6) : ∀ (m k : Nat) (acc : Int32) (fuel : Nat), k + m = n → m < fuel → fX12_hiredNow_h4 N fuel acc (nI k) S = some (hbR (S 35) m k acc, S) := by
  intro m
  induction m with
  | zero =>
    intro k acc fuel h1 h2
    obtain ⟨f, rfl⟩ : ∃ f, fuel = f + 1 := ⟨fuel - 1, by omega⟩
    show fX12_hiredNow_b4 N _ acc (nI k) S = _
    unfold fX12_hiredNow_b4
    rw [hn, if_pos (nI_le (by omega) (by omega))]
    rfl
  | succ m ih =>
    intro k acc fuel h1 h2
    obtain ⟨f, rfl⟩ : ∃ f, fuel = f + 1 := ⟨fuel - 1, by omega⟩
    show fX12_hiredNow_b4 N _ acc (nI k) S = _
    unfold fX12_hiredNow_b4
    rw [hn, if_neg (nI_ge (by omega) (by omega))]
    unfold fX12_hiredNow_b14
    rw [chk_t (inb_t (by omega) (by decide)), nI_clamp (by omega)]
    show _ = some (hbR (S 35) m (k + 1) (if S 35 k = -1 then acc else _), S)
    by_cases h : S 35 k = -1
    · rw [if_pos h, if_pos h]
      unfold fX12_hiredNow_b25 fX12_hiredNow_b37
      rw [nI_1, Int32.or_zero]
      exact ih (k + 1) _ f (by omega) (by omega)
    · rw [if_neg h, if_neg h]
      unfold fX12_hiredNow_b29
      rw [chk_t (inb_t (by omega) (by decide)), nI_clamp (by omega)]
      unfold fX12_hiredNow_b37
      rw [nI_1]
      exact ih (k + 1) _ f (by omega) (by omega)
theorem x_sins (hn : S k1 5 = nI n) (h6 : n ≤ 6) (hN : 6 < N) : fX7_sins N k0 k1 S = some (sumR (S (k0 + 1)) n 0 0, S) := x_sins_h hn h6 n 0 0 N (by omega) (by omega)
theorem x_purses (hn : S k1 5 = nI n) (h6 : n ≤ 6) (hN : 6 < N) : fX7_purses N k0 k1 S = some (sumR (S (k0 + 2)) n 0 0, S) := x_purses_h hn h6 n 0 0 N (by omega) (by omega)
theorem x_hiredBits (hn : S k1 5 = nI n) (h6 : n ≤ 6) (hN : 6 < N) : fX7_hiredBits N k0 k1 S = some (hbR (S (k0 + 4)) n 0 0, S) := x_hiredBits_h hn h6 n 0 0 N (by omega) (by omega)
theorem x_holderOf {x : Int32} (hn : S k1 5 = nI n) (h6 : n ≤ 6) (hN : 6 < N) : fX7_holderOf N k0 k1 x S = some (hoR (S (k0 + 4)) x n 0, S) := x_holderOf_h hn h6 n 0 N (by omega) (by omega)
theorem m_sumOf (hn : S 5 1 = nI n) (h6 : n ≤ 6) (hk : mN k1 = 6) (hN : 6 < N) : fX12_sumOf N k1 S = some (sumR (S k1) n 0 0, S) := m_sumOf_h hn h6 hk n 0 0 N (by omega) (by omega)
theorem m_hiredNow (hn : S 5 1 = nI n) (h6 : n ≤ 6) (hN : 6 < N) : fX12_hiredNow N S = some (hbR (S 35) n 0 0, S) := m_hiredNow_h hn h6 n 0 0 N (by omega) (by omega)
theorem m_hirerOf {x : Int32} (hn : S 5 1 = nI n) (h6 : n ≤ 6) (hN : 6 < N) : fX12_hirerOf N x S = some (hoR (S 35) x n 0, S) := m_hirerOf_h hn h6 n 0 N (by omega) (by omega)
end
