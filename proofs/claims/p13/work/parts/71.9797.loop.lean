theorem bnd_as {α β γ : Type} {x : Option α} {f : α → Option β} {g : β → Option γ} : bnd x (fun a => bnd (f a) g) = bnd (bnd x f) g := by
  cases x <;> rfl
section
variable {B : Nat → Nat} {n U : Nat}
/-- all the LINES -/
theorem L_lines (hT : U = 72 ∨ U = 4) : ∀ (m f f' i : Nat) (S SM : gS) (s p k g0 g1 nw b c1 c2 tk : Nat), n - s ≤ m → m < f → m < f' → tkJ B n s p k S SM → fine S SM → drK U g0 g1 nw b c1 c2 tk S SM → xdr S = U → i ≤ s → ∃ S' SM', fX3_read_h27 5000 f (nI i) S = some (S' 1 2, S') ∧ fX12_port_h93 5000 f' (doneV nw b c1 c2) SM = fX12_port_b116 5000 SM' ∧ fLx U S S' ∧ fLm SM SM' ∧ ((fine S' SM' ∧ ∃ g0 g1 nw b c1 c2 tk, drK U g0 g1 nw b c1 c2 tk S' SM') ∨ flt S' SM') := by
  have stop : ∀ (f f' i : Nat) (S SM : gS) (s p g0 g1 nw b c1 c2 tk : Nat), tkJ B n s p 0 S SM → fine S SM → drK U g0 g1 nw b c1 c2 tk S SM → ∃ S' SM', fX3_read_h27 5000 (f + 1) (nI i) S = some (S' 1 2, S') ∧ fX12_port_h93 5000 (f' + 1) (doneV nw b c1 c2) SM = fX12_port_b116 5000 SM' ∧ fLx U S S' ∧ fLm SM SM' ∧ ((fine S' SM' ∧ ∃ g0 g1 nw b c1 c2 tk, drK U g0 g1 nw b c1 c2 tk S' SM') ∨ flt S' SM') := by
    intro f f' i S SM s p g0 g1 nw b c1 c2 tk T F D
    have e4 : S 2 4 = 0 := T.2.1.2.2.2
    have m4 : SM 99 23 = 0 := T.2.2.1.2.2.2.2
    refine ⟨S, SM, ?_, ?_, fun _ _ _ _ => rfl, fun _ _ _ _ => rfl, Or.inl ⟨F, g0, g1, nw, b, c1, c2, tk, D⟩⟩
    · show fX3_read_b27 5000 (fX3_read_h27 5000 f) (nI i) S = _
      unfold fX3_read_b27
      by_cases h7 : (700 : Int32) ≤ nI i
      · rw [if_pos h7]
        rfl
      · rw [if_neg h7]
        unfold fX3_read_b34
        rw [bnd_t (fine_x F)]
        show fX3_read_b41 5000 (fX3_read_h27 5000 f) (nI i) S = _
        unfold fX3_read_b41
        rw [if_pos e4]
        rfl
    · show fX12_port_b93 5000 (fX12_port_h93 5000 f') (doneV nw b c1 c2) SM = _
      unfold fX12_port_b93
      rw [if_pos F.2]
      unfold fX12_port_b100
      rw [if_pos m4]
  intro m
  induction m with
  | zero =>
    intro f f' i S SM s p k g0 g1 nw b c1 c2 tk hm hf hf' T F D hU hi
    obtain ⟨f, rfl⟩ : ∃ y, f = y + 1 := ⟨f - 1, by omega⟩
    obtain ⟨f', rfl⟩ : ∃ y, f' = y + 1 := ⟨f' - 1, by omega⟩
    have hk := T.2.2.2.1
    unfold tkK at hk
    obtain rfl : k = 0 := by
      by_cases z : k = 0
      · exact z
      · have := hk.2.2.2.2 z
        omega
    exact stop f f' i S SM s p g0 g1 nw b c1 c2 tk T F D
  | succ m ih =>
    intro f f' i S SM s p k g0 g1 nw b c1 c2 tk hm hf hf' T F D hU hi
    obtain ⟨f, rfl⟩ : ∃ y, f = y + 2 := ⟨f - 2, by omega⟩
    obtain ⟨f', rfl⟩ : ∃ y, f' = y + 2 := ⟨f' - 2, by omega⟩
    by_cases k0 : k = 0
    · subst k0
      exact stop (f + 1) (f' + 1) i S SM s p g0 g1 nw b c1 c2 tk T F D
    · have hk := T.2.2.2.1
      unfold tkK at hk
      have hsp := hk.2.2.2.2 k0
      have i7 : i < 700 := by
        by_cases z : i < 700
        · exact z
        · exact absurd (far_k T hi (by omega)) k0
      have e4 : ¬ S 2 4 = 0 := by
        rw [T.2.1.2.2.2]
        exact fun z => k0 ((nI_eq (b := 0) (by omega) (by omega)).mp z)
      have m4 : ¬ SM 99 23 = 0 := by
        rw [T.2.2.1.2.2.2.2]
        exact fun z => k0 ((nI_eq (b := 0) (by omega) (by omega)).mp z)
      obtain ⟨S1, v, SM1, a1, a2, f1, f2, s1, p1, k1, T1, h⟩ := L_line D hU T F k0
      replace h : hid _ := h
      have eX : fX3_read_h27 5000 (f + 2) (nI i) S = fX3_read_h27 5000 (f + 1) (nI (i + 1)) S1 := by
        show fX3_read_b27 5000 (fX3_read_h27 5000 (f + 1)) (nI i) S = _
        unfold fX3_read_b27
        rw [if_neg (show ¬ (700 : Int32) ≤ nI i from nI_ge (b := 700) i7 (by decide))]
        unfold fX3_read_b34
        rw [bnd_t (fine_x F)]
        show fX3_read_b41 5000 (fX3_read_h27 5000 (f + 1)) (nI i) S = _
        unfold fX3_read_b41
        rw [if_neg e4]
        unfold fX3_read_b51
        refine (bnd_as (x := fX3_readLine 5000 S) (f := fun q1 => fX3_skipSign 5000 59 q1.2) (g := fun q2 => fX3_read_h27 5000 (f + 1) (nI i + 1) q2.2)).trans ?_
        rw [bnd_t a1, nI_1 i]
      have eM : fX12_port_h93 5000 (f' + 2) (doneV nw b c1 c2) SM = fX12_port_h93 5000 (f' + 1) v SM1 := by
        show fX12_port_b93 5000 (fX12_port_h93 5000 (f' + 1)) (doneV nw b c1 c2) SM = _
        unfold fX12_port_b93
        rw [if_pos F.2]
        unfold fX12_port_b100
        rw [if_neg m4]
        unfold fX12_port_b107
        rw [bnd_t a2]
      rw [eX, eM]
      rcases (show _ ∨ _ from h) with ⟨F1, e1, g0', g1', nw', b', c1', c2', tk', D1, rfl⟩ | h
      · have hU1 : xdr S1 = U := (xdr_on (f1 1 1 rfl (by omega))).trans hU
        obtain ⟨S', SM', r1, r2, r3, r4, r5⟩ := ih (f + 1) (f' + 1) (i + 1) S1 SM1 s1 p1 k1 g0' g1' nw' b' c1' c2' tk' (by omega) (by omega) (by omega) T1 F1 D1 hU1 (by omega)
        exact ⟨S', SM', r1, r2, f1.tr r3, f2.tr r4, r5⟩
      · refine ⟨S1, SM1, ?_, ?_, f1, f2, Or.inr h⟩
        · show fX3_read_b27 5000 (fX3_read_h27 5000 f) (nI (i + 1)) S1 = _
          unfold fX3_read_b27
          by_cases h7 : (700 : Int32) ≤ nI (i + 1)
          · rw [if_pos h7]
            rfl
          · rw [if_neg h7]
            unfold fX3_read_b34
            rw [bnd_t (flt_x (N := 5000) h).1]
            rfl
        · show fX12_port_b93 5000 (fX12_port_h93 5000 f') v SM1 = _
          unfold fX12_port_b93
          rw [if_neg (flt_x (N := 5000) h).2.1]
/-- the six that begin anew -/
theorem p55 {i f : Nat} {S : gS} (hi : i < 6) : fX12_port_h55 5000 (f + 1) (nI i) S = fX12_port_h55 5000 f (nI (i + 1)) (sU S 5 (6 + i) (if i = 2 then 70 else 0)) := by
  have e6 : (6 : Int32) + nI i = nI (6 + i) := by rw [show (6 : Int32) = nI 6 from rfl, nI_add]
  have b80 : ∀ x : Int32, fX12_port_b80 5000 (fX12_port_h55 5000 f) (nI i) (nI (6 + i)) x S = fX12_port_h55 5000 f (nI (i + 1)) (sU S 5 (6 + i) x) := by
    intro x
    unfold fX12_port_b80
    rw [chk_t (inb_t (by omega) (by decide)), nI_clamp (by omega), nI_1 i]
    rfl
  show fX12_port_b55 5000 (fX12_port_h55 5000 f) (nI i) S = _
  unfold fX12_port_b55
  rw [if_neg (show ¬ (6 : Int32) ≤ nI i from nI_ge (b := 6) hi (by decide))]
  unfold fX12_port_b61
  rw [e6]
  by_cases q : i = 2
  · rw [if_pos (show nI i = 2 by rw [q]; rfl), if_pos q]
    exact b80 70
  · rw [if_neg (show ¬ nI i = 2 from fun z => q ((nI_eq (b := 2) (by omega) (by omega)).mp z)), if_neg q]
    exact b80 0
theorem p55_all {f : Nat} {S : gS} : fX12_port_h55 5000 (f + 7) 0 S = fX12_port_b87 5000 (sU (sU (sU (sU (sU (sU S 5 6 0) 5 7 0) 5 8 70) 5 9 0) 5 10 0) 5 11 0) :=
  (p55 (i := 0) (f := f + 6) (by decide)).trans ((p55 (i := 1) (f := f + 5) (by decide)).trans ((p55 (i := 2) (f := f + 4) (by decide)).trans ((p55 (i := 3) (f := f + 3) (by decide)).trans ((p55 (i := 4) (f := f + 2) (by decide)).trans ((p55 (i := 5) (f := f + 1) (by decide)).trans rfl)))))
theorem x_clear0 {N : Nat} {S : gS} : fX9_clear N U S = some (0, sU (sU (sU (sU (sU (sU S U 0 0) U 5 0) U 10 0) U 12 0) (U + 10) 3 0) (U + 13) 3 0) := rfl
theorem x_open0 {N : Nat} {S S1 : gS} {x y : Int32} (h1 : S 2 1 = y) (h2 : ¬ y < x) (a : fX8_advance N (sU (sU S 2 2 x) 2 3 0) = some (0, S1)) : fX8_open N x S = some (0, S1) := by
  unfold fX8_open fX8_open_b0
  dsimp only [lt]
  rw [h1, if_neg h2, bnd_t a]
theorem x_read0 {N : Nat} {S S0 S1 : gS} {x : Int32} (hU : xdr S = U) (ec : fX9_clear N U S = some (0, S0)) (eo : fX8_open N x (sU (sU S0 1 2 0) 1 3 (-1)) = some (0, S1)) : fX3_read N x S = fX3_read_h27 N N (nI 0) S1 := by
  unfold fX3_read fX3_read_b0
  dsimp only [lt]
  rw [hU, bnd_t ec]
  dsimp only
  rw [bnd_t eo]
  rfl
theorem m_port0 {N : Nat} {SM : gS} {x : Int32} (h1 : ¬ x < 0) (h2 : x ≤ SM 99 20) : fX12_port N x SM = fX12_port_h55 N N 0 (sU (sU (sU (sU (sU (sU (sU SM 99 4 0) 99 20 0) 99 22 x) 99 21 0) 99 27 0) 99 30 0) 99 29 (-1)) := by
  unfold fX12_port fX12_port_b0
  dsimp only [lt]
  rw [if_neg h1]
  unfold fX12_port_b9
  rw [if_pos (show x ≤ sU SM 99 4 0 99 20 by rw [sU_n (by omega)]; exact h2)]
  rfl
theorem m_port1 {N : Nat} {SM SM1 : gS} (a : fX12_stepOn N SM = some (0, SM1)) : fX12_port_b87 N SM = fX12_port_h93 N N (doneV 0 0 0 0) SM1 := by
  unfold fX12_port_b87
  rw [bnd_t a]
  rfl
/-- the whole tape is read -/
theorem j_read {N0 : Nat} {S SM : gS} (hn : n ≤ N0) (h7 : N0 ≤ 700) (h21 : S 2 1 = nI N0) (m20 : SM 99 20 = nI N0) (hby : ∀ i, i < N0 → ∃ x : Nat, x < 256 ∧ (S 3 i &&& 255) = nI x ∧ SM 19 i = nI x) (hU : xdr S = U) (hr : S (U + 10) 2 = 0 ∧ S (U + 13) 2 = 1) : ∃ S' SM', fX3_read 5000 (nI n) S = some (S' 1 2, S') ∧ fX12_port 5000 (nI n) SM = fX12_port_b116 5000 SM' ∧ (∀ i j, xNu i j = false → ¬ (U ≤ i ∧ i < U + 16) ∨ ((i = U + 10 ∨ i = U + 13) ∧ j = 2) → ¬ (i = 2 ∧ j = 2) → S' i j = S i j) ∧ (∀ i j, mNu i j = false → ¬ mBig i j → ¬ (i = 99 ∧ (j = 4 ∨ j = 20 ∨ j = 22 ∨ j = 29)) → SM' i j = SM i j) ∧ SM' 99 4 = 0 ∧ SM' 99 20 = 0 ∧ SM' 99 29 = -1 ∧ ((fine S' SM' ∧ ∃ g0 g1 nw b c1 c2 tk, drK U g0 g1 nw b c1 c2 tk S' SM') ∨ flt S' SM') := by
  have hT := xdr_cases (S := S)
  rw [hU] at hT
  obtain ⟨S0, hS0⟩ : ∃ z, z = sU (sU (sU (sU (sU (sU S U 0 0) U 5 0) U 10 0) U 12 0) (U + 10) 3 0) (U + 13) 3 0 := ⟨_, rfl⟩
  obtain ⟨S2, hS2⟩ : ∃ z, z = sU (sU (sU (sU S0 1 2 0) 1 3 (-1)) 2 2 (nI n)) 2 3 0 := ⟨_, rfl⟩
  obtain ⟨M0, hM0⟩ : ∃ z, z = sU (sU (sU (sU (sU (sU (sU SM 99 4 0) 99 20 0) 99 22 (nI n)) 99 21 0) 99 27 0) 99 30 0) 99 29 (-1) := ⟨_, rfl⟩
  obtain ⟨M2, hM2⟩ : ∃ z, z = sU (sU (sU (sU (sU (sU M0 5 6 0) 5 7 0) 5 8 70) 5 9 0) 5 10 0) 5 11 0 := ⟨_, rfl⟩
  have k0 : ∀ i j, ¬ (i = U ∧ (j = 0 ∨ j = 5 ∨ j = 10 ∨ j = 12)) → ¬ ((i = U + 10 ∨ i = U + 13) ∧ j = 3) → S0 i j = S i j := fun i j z1 z2 => by
    rw [hS0, sU_n (by omega), sU_n (by omega), sU_n (by omega), sU_n (by omega), sU_n (by omega), sU_n (by omega)]
  have k2 : ∀ i j, ¬ (i = 1 ∧ (j = 2 ∨ j = 3)) → ¬ (i = 2 ∧ (j = 2 ∨ j = 3)) → S2 i j = S0 i j := fun i j z1 z2 => by
    rw [hS2, sU_n (by omega), sU_n (by omega), sU_n (by omega), sU_n (by omega)]
  have l0 : ∀ i j, ¬ (i = 99 ∧ (j = 4 ∨ j = 20 ∨ j = 22 ∨ j = 21 ∨ j = 27 ∨ j = 30 ∨ j = 29)) → M0 i j = SM i j := fun i j z1 => by
    rw [hM0, sU_n (by omega), sU_n (by omega), sU_n (by omega), sU_n (by omega), sU_n (by omega), sU_n (by omega), sU_n (by omega)]
  have l2 : ∀ i j, ¬ (i = 5 ∧ 6 ≤ j) → M2 i j = M0 i j := fun i j z1 => by
    rw [hM2, sU_n (by omega), sU_n (by omega), sU_n (by omega), sU_n (by omega), sU_n (by omega), sU_n (by omega)]
  have y0 : S0 U 0 = 0 := by rw [hS0, sU_n (by omega), sU_n (by omega), sU_n (by omega), sU_n (by omega), sU_n (by omega), sU_s]
  have y5 : S0 U 5 = 0 := by rw [hS0, sU_n (by omega), sU_n (by omega), sU_n (by omega), sU_n (by omega), sU_s]
  have y10 : S0 U 10 = 0 := by rw [hS0, sU_n (by omega), sU_n (by omega), sU_n (by omega), sU_s]
  have y12 : S0 U 12 = 0 := by rw [hS0, sU_n (by omega), sU_n (by omega), sU_s]
  have yr1 : S0 (U + 10) 3 = 0 := by rw [hS0, sU_n (by omega), sU_s]
  have yr2 : S0 (U + 13) 3 = 0 := by rw [hS0, sU_s]
  have w22 : M0 99 22 = nI n := by rw [hM0, sU_n (by omega), sU_n (by omega), sU_n (by omega), sU_n (by omega), sU_s]
  have w21 : M0 99 21 = 0 := by rw [hM0, sU_n (by omega), sU_n (by omega), sU_n (by omega), sU_s]
  have w27 : M0 99 27 = 0 := by rw [hM0, sU_n (by omega), sU_n (by omega), sU_s]
  have w30 : M0 99 30 = 0 := by rw [hM0, sU_n (by omega), sU_s]
  have w29 : M0 99 29 = -1 := by rw [hM0, sU_s]
  have w20 : M0 99 20 = 0 := by rw [hM0, sU_n (by omega), sU_n (by omega), sU_n (by omega), sU_n (by omega), sU_n (by omega), sU_s]
  have w4 : M0 99 4 = 0 := by rw [hM0, sU_n (by omega), sU_n (by omega), sU_n (by omega), sU_n (by omega), sU_n (by omega), sU_n (by omega), sU_s]
  have by2 : byJ (fun i => (SM 19 i).toNatClampNeg) n S2 M2 := by
    refine ⟨by omega, fun i hi => ?_⟩
    obtain ⟨x, x1, x2, x3⟩ := hby i (by omega)
    rw [k2 3 i (by omega) (by omega), k0 3 i (by omega) (by omega), l2 19 i (by omega), l0 19 i (by omega)]
    dsimp only
    rw [x3, nI_clamp (by omega)]
    exact ⟨x1, x2, rfl⟩
  obtain ⟨S1, SM1, s1, p1, k1, a1, a2, T1, -, a4, a5⟩ := j_step (p := 0) by2 (by omega) (by rw [hS2, sU_n (by omega), sU_s]) (by rw [hS2]; exact sU_s) (by rw [l2 99 22 (by omega)]; exact w22) (by rw [l2 99 21 (by omega)]; exact w21)
  have F1 : fine S1 SM1 := by
    refine ⟨⟨?_, ?_⟩, ?_⟩
    · rw [a4 1 2 rfl, hS2, sU_n (by omega), sU_n (by omega), sU_n (by omega), sU_s]
    · rw [a4 1 3 rfl, hS2, sU_n (by omega), sU_n (by omega), sU_s]
    · rw [a5 99 27 rfl, l2 99 27 (by omega)]; exact w27
  have xS : ∀ i j, U ≤ i → S1 i j = S0 i j := fun i j z => by
    rw [a4 i j (xNu_f (xNu_u (by omega) (by omega))).1]
    exact k2 i j (by omega) (by omega)
  have xM : ∀ j, SM1 5 j = M2 5 j := fun j => a5 5 j rfl
  have v6 : M2 5 6 = 0 := by rw [hM2, sU_n (by omega), sU_n (by omega), sU_n (by omega), sU_n (by omega), sU_n (by omega), sU_s]
  have v7 : M2 5 7 = 0 := by rw [hM2, sU_n (by omega), sU_n (by omega), sU_n (by omega), sU_n (by omega), sU_s]
  have v8 : M2 5 8 = 70 := by rw [hM2, sU_n (by omega), sU_n (by omega), sU_n (by omega), sU_s]
  have v9 : M2 5 9 = 0 := by rw [hM2, sU_n (by omega), sU_n (by omega), sU_s]
  have v10 : M2 5 10 = 0 := by rw [hM2, sU_n (by omega), sU_s]
  have v11 : M2 5 11 = 0 := by rw [hM2, sU_s]
  have D1 : drK U 0 0 0 0 0 0 0 S1 SM1 := by
    refine ⟨⟨?_, ?_, by omega, fun q z => absurd z (by omega)⟩, ⟨?_, ?_, by omega, fun q z => absurd z (by omega), fun g g' z => absurd z (by omega), ?_, by omega, fun q _ => ⟨fun z => ?_, fun ⟨g, z, _⟩ => absurd z (by omega)⟩⟩, ⟨?_, ?_, by omega, fun q z => absurd z (by omega)⟩, ⟨?_, by omega, ?_⟩, ⟨⟨0, ⟨?_, ?_, by omega, fun i z => absurd z (by omega), fun i z => absurd z (by omega), rfl⟩, Or.inl rfl⟩, ?_⟩, ⟨⟨0, ⟨?_, ?_, by omega, fun i z => absurd z (by omega), fun i z => absurd z (by omega), rfl⟩, Or.inl rfl⟩, ?_⟩⟩
    · rw [xS _ _ (by omega)]; exact y0
    · rw [xM]; exact v6
    · rw [xS _ _ (by omega)]; exact y5
    · rw [xM]; exact v7
    · rw [a5 99 30 rfl, l2 99 30 (by omega)]; exact w30
    · rw [Nat.zero_testBit] at z; cases z
    · rw [xS _ _ (by omega)]; exact y10
    · rw [xM]; exact v9
    · rw [xS _ _ (by omega)]; exact y12
    · rw [xM, if_pos rfl]; exact v8
    · rw [xS _ _ (by omega)]; exact yr1
    · rw [xM]; exact v10
    · rw [xS _ _ (by omega), k0 _ _ (by omega) (by omega)]; exact hr.1
    · rw [xS _ _ (by omega)]; exact yr2
    · rw [xM]; exact v11
    · rw [xS _ _ (by omega), k0 _ _ (by omega) (by omega)]; exact hr.2
  have hU1 : xdr S1 = U := (xdr_on (by rw [a4 1 1 rfl, k2 1 1 (by omega) (by omega), k0 1 1 (by omega) (by omega)])).trans hU
  obtain ⟨S', SM', r1, r2, r3, r4, r5⟩ := L_lines hT n 5000 5000 0 S1 SM1 s1 p1 k1 0 0 0 0 0 0 0 (by omega) (by omega) (by omega) T1 F1 D1 hU1 (by omega)
  have g4 : ∀ j, mNu 99 j = false → ¬ (j = 3 ∨ j = 30 ∨ j = 31) → SM' 99 j = M0 99 j := fun j z1 z2 => by
    rw [r4 99 j z1 (by unfold mBig; omega), a5 99 j (mNu_f z1).1]
    exact l2 99 j (by omega)
  refine ⟨S', SM', ?_, ?_, fun i j z1 z2 z3 => ?_, fun i j z1 z2 z3 => ?_, (g4 4 rfl (by omega)).trans w4, (g4 20 rfl (by omega)).trans w20, (g4 29 rfl (by omega)).trans w29, r5⟩
  · have ec : fX9_clear 5000 U S = some (0, S0) := by
      rw [hS0]
      exact x_clear0
    have eo : fX8_open 5000 (nI n) (sU (sU S0 1 2 0) 1 3 (-1)) = some (0, S1) := x_open0 (y := nI N0) (by rw [sU_n (by omega), sU_n (by omega), k0 2 1 (by omega) (by omega)]; exact h21) (nI_nlt (by omega) (by omega)) (by rw [← hS2]; exact a1)
    refine (x_read0 hU ec eo).trans ?_
    exact r1
  · refine (m_port0 (nI_pos (by omega)) (by rw [m20]; exact nI_le hn (by omega))).trans ?_
    rw [← hM0]
    refine (p55_all (f := 4993)).trans ?_
    rw [← hM2]
    refine (m_port1 a2).trans ?_
    exact r2
  · rw [r3 i j z1 z2, a4 i j (xNu_f z1).1]
    have z4 := (xNu_f z1).2
    have z5 : ¬ (i = 2 ∧ j = 3) := by
      rintro ⟨rfl, rfl⟩
      cases z1
    rw [k2 i j z4 (by omega)]
    exact k0 i j (by omega) (by omega)
  · rw [r4 i j z1 z2, a5 i j (mNu_f z1).1]
    have z4 := (mNu_f z1).2
    have z5 : ¬ (i = 99 ∧ j = 21) := by
      rintro ⟨rfl, rfl⟩
      cases z1
    unfold mBig at z2
    rw [l2 i j (by omega)]
    exact l0 i j (by omega)
end
