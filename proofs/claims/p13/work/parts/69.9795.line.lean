section
variable {B : Nat → Nat} {n s p k U g0 g1 nw b c1 c2 tk : Nat} {S SM S' SM' S1 SM1 S2 SM2 : gS}
theorem drK.nu (hT : U = 72 ∨ U = 4) (h : drK U g0 g1 nw b c1 c2 tk S SM) (o1 : oSame xNu S S') (o2 : oSame mNu SM SM') : drK U g0 g1 nw b c1 c2 tk S' SM' := by
  obtain ⟨d1, d2, d3, d4, d5, d6⟩ := h
  have X' : ∀ i j, U ≤ i → S' i j = S i j := fun i j z => o1 i j (xNu_u (by omega) (by omega))
  have M' : ∀ i j, i ≠ 99 → SM' i j = SM i j := fun i j z => o2 i j (mNu_u z)
  exact ⟨d1.on (X' _ _ (by omega)) (fun i j _ _ => X' i j (by omega)) (M' _ _ (by omega)) (fun i j _ _ => M' i j (by omega)), d2.on (X' _ _ (by omega)) (fun i j _ _ => X' i j (by omega)) (M' _ _ (by omega)) (o2 99 30 rfl) (fun i j _ _ => M' i j (by omega)), d3.on (X' _ _ (by omega)) (fun j => X' _ j (by omega)) (M' _ _ (by omega)) (fun j => M' _ j (by omega)), d4.on (X' _ _ (by omega)) (M' _ _ (by omega)), d5.on (fun i j _ => X' i j (by omega)) (M' _ _ (by omega)) (fun j => M' _ j (by omega)), d6.on (fun i j _ => X' i j (by omega)) (M' _ _ (by omega)) (fun j => M' _ j (by omega))⟩
/-- the mark behind a LINE -/
theorem L_mark {d : Int32} (hT : U = 72 ∨ U = 4) (h : LIN B n U s S SM S1 SM1 d) : ∃ S' SM', fX3_skipSign 5000 59 S1 = some (0, S') ∧ fX12_mark 5000 59 SM1 = some (0, SM') ∧ LIN B n U s S SM S' SM' d := by
  obtain ⟨f1, f2, s', p', k', T', h⟩ := h
  rcases h with ⟨F', e, g0, g1, nw, b, c1, c2, tk, h1, h2⟩ | h
  · obtain ⟨S', SM', a1, a2, ⟨o1, o2, s2, p2, k2, T2, h3⟩, -⟩ := j_skip (x := 59) T' F'
    refine ⟨S', SM', a1, a2, fun i j z1 z2 => (o1 i j z1).trans (f1 i j z1 z2), fun i j z1 z2 => (o2 i j z1).trans (f2 i j z1 z2), s2, p2, k2, T2, ?_⟩
    rcases h3 with ⟨F2, e2, -⟩ | h3
    · exact Or.inl ⟨F2, by omega, g0, g1, nw, b, c1, c2, tk, h1.nu hT o1 o2, h2⟩
    · exact Or.inr h3
  · obtain ⟨a1, a2⟩ := j_skip0 (x := 59) T' h
    exact ⟨S1, SM1, a1, a2, f1, f2, s', p', k', T', Or.inr h⟩
theorem L_fin {RX Y : Option (Int32 × gS)} {d x3 : Int32} (hT : U = 72 ∨ U = 4) (eX : fX3_readLine 5000 S = bnd RX (fun q1 => some (0, q1.2))) (eM : fX12_readLine 5000 d SM = bnd Y (fun q1 => fX12_readLine_b132 5000 d x3 q1.2)) (h : ∃ S1 SM1, RX = some (0, S1) ∧ Y = some (0, SM1) ∧ LIN B n U s S SM S1 SM1 (d ||| x3)) : ∃ S' v SM', bnd (fX3_readLine 5000 S) (fun q1 => fX3_skipSign 5000 59 q1.2) = some (0, S') ∧ fX12_readLine 5000 d SM = some (v, SM') ∧ LIN B n U s S SM S' SM' v := by
  obtain ⟨S1, SM1, h1, h2, h3⟩ := h
  obtain ⟨S', SM', a1, a2, a3⟩ := L_mark hT h3
  refine ⟨S', d ||| x3, SM', ?_, ?_, a3⟩
  · rw [eX, bnd_t h1]
    exact a1
  · rw [eM, bnd_t h2]
    show fX12_readLine_b132 5000 d x3 SM1 = _
    unfold fX12_readLine_b132
    rw [bnd_t a2]
theorem isWl_e {l l' : List Int32} (h : isWl B k s p l = true) (h' : isWl B k s p l' = true) : l = l' := by
  unfold isWl at h h'
  simp only [Bool.and_eq_true, decide_eq_true_eq, alB_t] at h h'
  obtain ⟨-, a1, a2⟩ := h
  obtain ⟨-, b1, b2⟩ := h'
  refine List.ext_getElem (by omega) (fun i h1 h2 => ?_)
  have e1 := a2 i h1
  have e2 := b2 i h2
  rw [List.getD_eq_getElem?_getD, List.getElem?_eq_getElem h1] at e1
  rw [List.getD_eq_getElem?_getD, List.getElem?_eq_getElem h2] at e2
  exact e1.symm.trans e2
theorem isW_x {a c : Nat} (h : isW B k s p a = true) (hne : sB.getD a [] ≠ sB.getD c []) : isW B k s p c = false := by
  cases q : isW B k s p c with
  | false => rfl
  | true => exact absurd (isWl_e h q) hne
theorem m_wrong0 {q : Int32} {N : Nat} (h : SM 99 27 ≠ 0) : fX12_wrong N q SM = some (0, SM) := by
  unfold fX12_wrong fX12_wrong_b0
  rw [if_neg h]
  rfl
/-- the reference's LINE: which word stands there -/
theorem m_line {d : Int32} (T : tkJ B n s p k S SM) (F : fine S SM) : fX12_readLine 5000 d SM = fX12_readLine_b66 5000 d (owV (fun i => isW B k s p (mS 0 i)) 2) (if isW B k s p 6 = true then 1 else if isW B k s p 7 = true then 2 else if isW B k s p 8 = true then 4 else if isW B k s p 18 = true then 8 else 0) SM := by
  obtain ⟨x2, h2⟩ : ∃ z, z = owV (fun i => isW B k s p (mS 0 i)) 2 := ⟨_, rfl⟩
  have hw := m_which (l := 0) (L := 2) (Or.inl ⟨rfl, rfl⟩) T F
  rw [← h2] at hw ⊢
  have e1 : fX12_is 5000 34 SM = some (iv (isW B k s p 6), SM) := m_is (by decide) T F.2
  have e2 : fX12_is 5000 37 SM = some (iv (isW B k s p 7), SM) := m_is (by decide) T F.2
  have e3 : fX12_is 5000 38 SM = some (iv (isW B k s p 8), SM) := m_is (by decide) T F.2
  have e4 : fX12_is 5000 39 SM = some (iv (isW B k s p 18), SM) := m_is (by decide) T F.2
  have r1 : fX12_readLine 5000 d SM = if iv (isW B k s p 6) = 0 then fX12_readLine_b22 5000 d x2 SM else fX12_readLine_b18 5000 d x2 SM := by
    unfold fX12_readLine fX12_readLine_b0
    rw [bnd_t hw]
    dsimp only
    rw [bnd_t e1]
  have r2 : fX12_readLine_b22 5000 d x2 SM = if iv (isW B k s p 7) = 0 then fX12_readLine_b36 5000 d x2 SM else fX12_readLine_b32 5000 d x2 SM := by
    unfold fX12_readLine_b22
    rw [bnd_t e2]
  have r3 : fX12_readLine_b36 5000 d x2 SM = if iv (isW B k s p 8) = 0 then fX12_readLine_b50 5000 d x2 SM else fX12_readLine_b46 5000 d x2 SM := by
    unfold fX12_readLine_b36
    rw [bnd_t e3]
  have r4 : fX12_readLine_b50 5000 d x2 SM = if iv (isW B k s p 18) = 0 then fX12_readLine_b65 5000 d x2 SM else fX12_readLine_b60 5000 d x2 SM := by
    unfold fX12_readLine_b50
    rw [bnd_t e4]
  rw [r1, r2, r3, r4]
  cases isW B k s p 6 with
  | true => rfl
  | false =>
    cases isW B k s p 7 with
    | true => rfl
    | false =>
      cases isW B k s p 8 with
      | true => rfl
      | false =>
        cases isW B k s p 18 with
        | true => rfl
        | false => rfl
theorem iv_ite {α : Type} {b : Bool} {x y : α} : (if iv b = 0 then x else y) = if b = true then y else x := by
  cases b <;> rfl
theorem x_lb {N : Nat} : (fX3_readLine_b12 N S = bnd (fX3_readGrotto N 0 S) (fun q1 => some (0, q1.2))) ∧ (fX3_readLine_b32 N S = bnd (fX3_readGrotto N 1 S) (fun q1 => some (0, q1.2))) ∧ (fX3_readLine_b52 N S = bnd (fX3_readGuild N S) (fun q1 => some (0, q1.2))) ∧ (fX3_readLine_b71 N S = bnd (fX3_readWet N S) (fun q1 => some (0, q1.2))) ∧ (fX3_readLine_b90 N S = bnd (fX3_readBound N S) (fun q1 => some (0, q1.2))) ∧ (fX3_readLine_b109 N S = bnd (fX3_readRule N (xdr S + 10) S) (fun q1 => some (0, q1.2))) ∧ (fX3_readLine_b135 N S = bnd (fX3_readRule N (xdr S + 13) S) (fun q1 => some (0, q1.2))) ∧ (fX3_readLine_b149 N S = bnd (fX3_refuse N 1 S) (fun q1 => some (0, q1.2))) := ⟨rfl, rfl, rfl, rfl, rfl, rfl, rfl, rfl⟩
theorem x_line (T : tkJ B n s p k S SM) : fX3_readLine 5000 S = if isW B k s p 2 = true then bnd (fX3_readGrotto 5000 0 S) (fun q1 => some (0, q1.2)) else if isW B k s p 3 = true then bnd (fX3_readGrotto 5000 1 S) (fun q1 => some (0, q1.2)) else if isW B k s p 4 = true then bnd (fX3_readGuild 5000 S) (fun q1 => some (0, q1.2)) else if isW B k s p 6 = true then bnd (fX3_readWet 5000 S) (fun q1 => some (0, q1.2)) else if isW B k s p 7 = true then bnd (fX3_readBound 5000 S) (fun q1 => some (0, q1.2)) else if isW B k s p 8 = true then bnd (fX3_readRule 5000 (xdr S + 10) S) (fun q1 => some (0, q1.2)) else if isW B k s p 18 = true then bnd (fX3_readRule 5000 (xdr S + 13) S) (fun q1 => some (0, q1.2)) else bnd (fX3_refuse 5000 1 S) (fun q1 => some (0, q1.2)) := by
  have r1 : fX3_readLine 5000 S = if iv (isW B k s p 2) = 0 then fX3_readLine_b20 5000 S else fX3_readLine_b12 5000 S := by
    unfold fX3_readLine fX3_readLine_b0
    rw [bnd_t (x_isAtWord (by decide) T)]
  have r2 : fX3_readLine_b20 5000 S = if iv (isW B k s p 3) = 0 then fX3_readLine_b40 5000 S else fX3_readLine_b32 5000 S := by
    unfold fX3_readLine_b20
    rw [bnd_t (x_isAtWord (by decide) T)]
  have r3 : fX3_readLine_b40 5000 S = if iv (isW B k s p 4) = 0 then fX3_readLine_b59 5000 S else fX3_readLine_b52 5000 S := by
    unfold fX3_readLine_b40
    rw [bnd_t (x_isAtWord (by decide) T)]
  have r4 : fX3_readLine_b59 5000 S = if iv (isW B k s p 6) = 0 then fX3_readLine_b78 5000 S else fX3_readLine_b71 5000 S := by
    unfold fX3_readLine_b59
    rw [bnd_t (x_isAtWord (by decide) T)]
  have r5 : fX3_readLine_b78 5000 S = if iv (isW B k s p 7) = 0 then fX3_readLine_b97 5000 S else fX3_readLine_b90 5000 S := by
    unfold fX3_readLine_b78
    rw [bnd_t (x_isAtWord (by decide) T)]
  have r6 : fX3_readLine_b97 5000 S = if iv (isW B k s p 8) = 0 then fX3_readLine_b123 5000 S else fX3_readLine_b109 5000 S := by
    unfold fX3_readLine_b97
    rw [bnd_t (x_isAtWord (by decide) T)]
  have r7 : fX3_readLine_b123 5000 S = if iv (isW B k s p 18) = 0 then fX3_readLine_b149 5000 S else fX3_readLine_b135 5000 S := by
    unfold fX3_readLine_b123
    rw [bnd_t (x_isAtWord (by decide) T)]
  obtain ⟨s1, s2, s3, s4, s5, s6, s7, s8⟩ := x_lb (S := S) (N := 5000)
  rw [r1, iv_ite, s1, r2, iv_ite, s2, r3, iv_ite, s3, r4, iv_ite, s4, r5, iv_ite, s5, r6, iv_ite, s6, r7, iv_ite, s7, s8]
end
