/-! the reference's pack and unpack -/
/-- the row nd holds from a on what is so now in S -/
def pkd (nd a : Nat) (S S' : gS) : Prop :=
  S' nd a = S 99 37 ∧ S' nd (a + 1) = S 99 38 ∧ ∀ g, g < 6 → S' nd (a + 2 + g) = S 32 g ∧ S' nd (a + 8 + g) = S 33 g ∧ S' nd (a + 14 + g) = S 34 g ∧ S' nd (a + 20 + g) = S 35 g
theorem ix2 (a k : Nat) : (nI a + 2) + nI k = nI (a + 2 + k) := by rw [show (2 : Int32) = nI 2 from rfl, nI_add, nI_add]
theorem ix8 (a k : Nat) : ((nI a + 2) + 6) + nI k = nI (a + 8 + k) := by rw [show (2 : Int32) = nI 2 from rfl, show (6 : Int32) = nI 6 from rfl, nI_add, nI_add, nI_add]
theorem ix14 (a k : Nat) : ((nI a + 2) + 12) + nI k = nI (a + 14 + k) := by rw [show (2 : Int32) = nI 2 from rfl, show (12 : Int32) = nI 12 from rfl, nI_add, nI_add, nI_add]
theorem ix20 (a k : Nat) : ((nI a + 2) + 18) + nI k = nI (a + 20 + k) := by rw [show (2 : Int32) = nI 2 from rfl, show (18 : Int32) = nI 18 from rfl, nI_add, nI_add, nI_add]
theorem sU_s {S : gS} {a b : Nat} {x : Int32} : sU S a b x a b = x := by rw [sU_ap, if_pos ⟨rfl, rfl⟩]
theorem sU_n {S : gS} {a b i j : Nat} {x : Int32} (h : ¬ (i = a ∧ j = b)) : sU S a b x i j = S i j := by rw [sU_ap, if_neg h]
theorem m_pack_h {N nd a : Nat} (hnd : nd ≠ 32 ∧ nd ≠ 33 ∧ nd ≠ 34 ∧ nd ≠ 35) (h26 : a + 26 ≤ mN nd) (hm : mN nd < 2 ^ 31) : ∀ (m k fuel : Nat) (S : gS), k + m = 6 → m < fuel →
    ∃ S', fX12_pack_h18 N fuel nd (nI a) (nI k) S = some (0, S') ∧ (∀ i j, ¬ (i = nd ∧ a + 2 ≤ j ∧ j < a + 26) → S' i j = S i j) ∧
      (∀ g, k ≤ g → g < 6 → S' nd (a + 2 + g) = S 32 g ∧ S' nd (a + 8 + g) = S 33 g ∧ S' nd (a + 14 + g) = S 34 g ∧ S' nd (a + 20 + g) = S 35 g) ∧
      (∀ g, g < k → S' nd (a + 2 + g) = S nd (a + 2 + g) ∧ S' nd (a + 8 + g) = S nd (a + 8 + g) ∧ S' nd (a + 14 + g) = S nd (a + 14 + g) ∧ S' nd (a + 20 + g) = S nd (a + 20 + g)) := by
  intro m
  induction m with
  | zero =>
    intro k fuel S h1 h2
    obtain ⟨f, rfl⟩ : ∃ f, fuel = f + 1 := ⟨fuel - 1, by omega⟩
    have hk : k = 6 := by omega
    subst hk
    exact ⟨S, rfl, fun i j _ => rfl, fun g h3 h4 => by omega, fun g _ => ⟨rfl, rfl, rfl, rfl⟩⟩
  | succ m ih =>
    intro k fuel S h1 h2
    obtain ⟨f, rfl⟩ : ∃ f, fuel = f + 1 := ⟨fuel - 1, by omega⟩
    obtain ⟨S', e1, e2, e3, e4⟩ := ih (k + 1) f (sU (sU (sU (sU S nd (a + 2 + k) (S 32 k)) nd (a + 8 + k) (S 33 k)) nd (a + 14 + k) (S 34 k)) nd (a + 20 + k) (S 35 k)) (by omega) (by omega)
    have r32 : ∀ i j, i ≠ nd → sU (sU (sU (sU S nd (a + 2 + k) (S 32 k)) nd (a + 8 + k) (S 33 k)) nd (a + 14 + k) (S 34 k)) nd (a + 20 + k) (S 35 k) i j = S i j := fun i j h => by
      rw [sU_n (by omega), sU_n (by omega), sU_n (by omega), sU_n (by omega)]
    refine ⟨S', ?_, fun i j h => ?_, fun g h3 h4 => ?_, fun g h3 => ?_⟩
    · show fX12_pack_b18 N (fX12_pack_h18 N f) nd (nI a) (nI k) S = _
      unfold fX12_pack_b18
      rw [show (6 : Int32) = nI 6 from rfl, if_neg (nI_ge (by omega) (by omega))]
      unfold fX12_pack_b24
      dsimp only [lt]
      rw [ix2, ix8, ix14, ix20, nI_clamp (n := k) (by omega), nI_clamp (n := a + 2 + k) (by omega), nI_clamp (n := a + 8 + k) (by omega), nI_clamp (n := a + 14 + k) (by omega), nI_clamp (n := a + 20 + k) (by omega), nI_1]
      rw [chk_t (inb_t (by omega) (by omega)), chk_t (inb_t (by omega) hm), chk_t (inb_t (by omega) (by omega)), chk_t (inb_t (by omega) hm), chk_t (inb_t (by omega) (by omega)), chk_t (inb_t (by omega) hm), chk_t (inb_t (by omega) (by omega)), chk_t (inb_t (by omega) hm)]
      rw [sU_n (i := 33) (by omega), sU_n (i := 34) (by omega), sU_n (i := 34) (by omega), sU_n (i := 35) (by omega), sU_n (i := 35) (by omega), sU_n (i := 35) (by omega)]
      exact e1
    · rw [e2 i j h, sU_n (by omega), sU_n (by omega), sU_n (by omega), sU_n (by omega)]
    · by_cases hg : g = k
      · subst hg
        obtain ⟨q1, q2, q3, q4⟩ := e4 g (by omega)
        rw [q1, q2, q3, q4]
        refine ⟨?_, ?_, ?_, sU_s⟩
        · rw [sU_n (by omega), sU_n (by omega), sU_n (by omega), sU_s]
        · rw [sU_n (by omega), sU_n (by omega), sU_s]
        · rw [sU_n (by omega), sU_s]
      · obtain ⟨q1, q2, q3, q4⟩ := e3 g (by omega) h4
        rw [q1, q2, q3, q4, r32 32 g (by omega), r32 33 g (by omega), r32 34 g (by omega), r32 35 g (by omega)]
        exact ⟨rfl, rfl, rfl, rfl⟩
    · obtain ⟨q1, q2, q3, q4⟩ := e4 g (by omega)
      rw [q1, q2, q3, q4]
      refine ⟨?_, ?_, ?_, ?_⟩
      · rw [sU_n (by omega), sU_n (by omega), sU_n (by omega), sU_n (by omega)]
      · rw [sU_n (by omega), sU_n (by omega), sU_n (by omega), sU_n (by omega)]
      · rw [sU_n (by omega), sU_n (by omega), sU_n (by omega), sU_n (by omega)]
      · rw [sU_n (by omega), sU_n (by omega), sU_n (by omega), sU_n (by omega)]
theorem m_pack {N nd a : Nat} {S : gS} (hnd : nd ≠ 32 ∧ nd ≠ 33 ∧ nd ≠ 34 ∧ nd ≠ 35 ∧ nd ≠ 99) (h26 : a + 26 ≤ mN nd) (hm : mN nd < 2 ^ 31) (hN : 6 < N) : ∃ S', fX12_pack N nd (nI a) S = some (0, S') ∧ (∀ i j, ¬ (i = nd ∧ a ≤ j ∧ j < a + 26) → S' i j = S i j) ∧ pkd nd a S S' := by
  obtain ⟨S', e1, e2, e3, -⟩ := m_pack_h (N := N) (a := a) ⟨hnd.1, hnd.2.1, hnd.2.2.1, hnd.2.2.2.1⟩ h26 hm 6 0 N (sU (sU S nd a (S 99 37)) nd (a + 1) (S 99 38)) (by omega) hN
  refine ⟨S', ?_, fun i j h => ?_, ?_, ?_, fun g hg => ?_⟩
  · unfold fX12_pack fX12_pack_b0
    dsimp only [lt]
    rw [nI_1, nI_clamp (n := a) (by omega), nI_clamp (n := a + 1) (by omega), chk_t (inb_t (by omega) hm), chk_t (inb_t (by omega) hm), sU_n (i := 99) (by omega)]
    exact e1
  · rw [e2 i j (by omega), sU_n (by omega), sU_n (by omega)]
  · rw [e2 nd a (by omega), sU_n (by omega), sU_s]
  · rw [e2 nd (a + 1) (by omega), sU_s]
  · obtain ⟨q1, q2, q3, q4⟩ := e3 g (by omega) hg
    rw [q1, q2, q3, q4, sU_n (by omega), sU_n (by omega), sU_n (by omega), sU_n (by omega), sU_n (by omega), sU_n (by omega), sU_n (by omega), sU_n (by omega)]
    exact ⟨rfl, rfl, rfl, rfl⟩
theorem m_unpack_h {N nd a : Nat} (hnd : nd ≠ 32 ∧ nd ≠ 33 ∧ nd ≠ 34 ∧ nd ≠ 35) (h26 : a + 26 ≤ mN nd) (hm : mN nd < 2 ^ 31) : ∀ (m k fuel : Nat) (S : gS), k + m = 6 → m < fuel →
    ∃ S', fX12_unpack_h18 N fuel nd (nI a) (nI k) S = some (0, S') ∧ (∀ i j, ¬ (32 ≤ i ∧ i ≤ 35 ∧ k ≤ j ∧ j < 6) → S' i j = S i j) ∧
      (∀ g, k ≤ g → g < 6 → S' 32 g = S nd (a + 2 + g) ∧ S' 33 g = S nd (a + 8 + g) ∧ S' 34 g = S nd (a + 14 + g) ∧ S' 35 g = S nd (a + 20 + g)) := by
  intro m
  induction m with
  | zero =>
    intro k fuel S h1 h2
    obtain ⟨f, rfl⟩ : ∃ f, fuel = f + 1 := ⟨fuel - 1, by omega⟩
    have hk : k = 6 := by omega
    subst hk
    exact ⟨S, rfl, fun i j _ => rfl, fun g h3 h4 => by omega⟩
  | succ m ih =>
    intro k fuel S h1 h2
    obtain ⟨f, rfl⟩ : ∃ f, fuel = f + 1 := ⟨fuel - 1, by omega⟩
    obtain ⟨S', e1, e2, e3⟩ := ih (k + 1) f (sU (sU (sU (sU S 32 k (S nd (a + 2 + k))) 33 k (S nd (a + 8 + k))) 34 k (S nd (a + 14 + k))) 35 k (S nd (a + 20 + k))) (by omega) (by omega)
    refine ⟨S', ?_, fun i j h => ?_, fun g h3 h4 => ?_⟩
    · show fX12_unpack_b18 N (fX12_unpack_h18 N f) nd (nI a) (nI k) S = _
      unfold fX12_unpack_b18
      rw [show (6 : Int32) = nI 6 from rfl, if_neg (nI_ge (by omega) (by omega))]
      unfold fX12_unpack_b24
      dsimp only [lt]
      rw [ix2, ix8, ix14, ix20, nI_clamp (n := k) (by omega), nI_clamp (n := a + 2 + k) (by omega), nI_clamp (n := a + 8 + k) (by omega), nI_clamp (n := a + 14 + k) (by omega), nI_clamp (n := a + 20 + k) (by omega), nI_1]
      rw [chk_t (inb_t (by omega) hm), chk_t (inb_t (by omega) (by omega)), chk_t (inb_t (by omega) hm), chk_t (inb_t (by omega) (by omega)), chk_t (inb_t (by omega) hm), chk_t (inb_t (by omega) (by omega)), chk_t (inb_t (by omega) hm), chk_t (inb_t (by omega) (by omega))]
      rw [sU_n (i := nd) (j := a + 8 + k) (by omega), sU_n (i := nd) (j := a + 14 + k) (by omega), sU_n (i := nd) (j := a + 14 + k) (by omega), sU_n (i := nd) (j := a + 20 + k) (by omega), sU_n (i := nd) (j := a + 20 + k) (by omega), sU_n (i := nd) (j := a + 20 + k) (by omega)]
      exact e1
    · rw [e2 i j (by omega), sU_n (by omega), sU_n (by omega), sU_n (by omega), sU_n (by omega)]
    · by_cases hg : g = k
      · subst hg
        rw [e2 32 g (by omega), e2 33 g (by omega), e2 34 g (by omega), e2 35 g (by omega)]
        refine ⟨?_, ?_, ?_, sU_s⟩
        · rw [sU_n (by omega), sU_n (by omega), sU_n (by omega), sU_s]
        · rw [sU_n (by omega), sU_n (by omega), sU_s]
        · rw [sU_n (by omega), sU_s]
      · obtain ⟨q1, q2, q3, q4⟩ := e3 g (by omega) h4
        rw [q1, q2, q3, q4]
        refine ⟨?_, ?_, ?_, ?_⟩
        · rw [sU_n (by omega), sU_n (by omega), sU_n (by omega), sU_n (by omega)]
        · rw [sU_n (by omega), sU_n (by omega), sU_n (by omega), sU_n (by omega)]
        · rw [sU_n (by omega), sU_n (by omega), sU_n (by omega), sU_n (by omega)]
        · rw [sU_n (by omega), sU_n (by omega), sU_n (by omega), sU_n (by omega)]
theorem m_unpack {N nd a : Nat} {S : gS} (hnd : nd ≠ 32 ∧ nd ≠ 33 ∧ nd ≠ 34 ∧ nd ≠ 35 ∧ nd ≠ 99) (h26 : a + 26 ≤ mN nd) (hm : mN nd < 2 ^ 31) (hN : 6 < N) : ∃ S', fX12_unpack N nd (nI a) S = some (0, S') ∧ (∀ i j, ¬ (32 ≤ i ∧ i ≤ 35 ∧ j < 6) → ¬ (i = 99 ∧ (j = 37 ∨ j = 38)) → S' i j = S i j) ∧ pkd nd a S' S := by
  obtain ⟨S', e1, e2, e3⟩ := m_unpack_h (N := N) (a := a) ⟨hnd.1, hnd.2.1, hnd.2.2.1, hnd.2.2.2.1⟩ h26 hm 6 0 N (sU (sU S 99 37 (S nd a)) 99 38 (S nd (a + 1))) (by omega) hN
  refine ⟨S', ?_, fun i j h1 h2 => ?_, ?_, ?_, fun g hg => ?_⟩
  · unfold fX12_unpack fX12_unpack_b0
    dsimp only [lt]
    rw [nI_1, nI_clamp (n := a) (by omega), nI_clamp (n := a + 1) (by omega), chk_t (inb_t (by omega) hm), chk_t (inb_t (by omega) hm), sU_n (i := nd) (by omega)]
    exact e1
  · rw [e2 i j (by omega), sU_n (by omega), sU_n (by omega)]
  · rw [e2 99 37 (by omega), sU_n (by omega), sU_s]
  · rw [e2 99 38 (by omega), sU_s]
  · obtain ⟨q1, q2, q3, q4⟩ := e3 g (by omega) hg
    rw [q1, q2, q3, q4, sU_n (by omega), sU_n (by omega), sU_n (by omega), sU_n (by omega), sU_n (by omega), sU_n (by omega), sU_n (by omega), sU_n (by omega)]
    exact ⟨rfl, rfl, rfl, rfl⟩
