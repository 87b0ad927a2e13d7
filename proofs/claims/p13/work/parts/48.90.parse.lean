/-! the EXPRS: both sides lay the same, or meet the same FAULT -/
def flt (S SM : gS) : Prop := ∃ k : Nat, 1 ≤ k ∧ k ≤ 5 ∧ S 1 2 = nI k ∧ SM 99 27 = nI k ∧ S 1 3 = SM 99 28
def fine (S SM : gS) : Prop := (S 1 2 = 0 ∧ S 1 3 = -1) ∧ SM 99 27 = 0
def cOK (c : Nat → Int32) (i : Nat) : Prop := ((0 ≤ c i ∧ c i ≤ 10006) ∧ rDep c i < 31) ∨ (c i = 10010 ∧ 1 ≤ rDep c i) ∨ ((10011 ≤ c i ∧ c i ≤ 10018) ∧ 2 ≤ rDep c i)
/-- the rule: r the class's, w and sg the reference's; c codes laid, D values above each other -/
def rlJ (r w sg c D : Nat) (S SM : gS) : Prop := S r 3 = nI c ∧ SM 5 w = nI c ∧ c ≤ 700 ∧ (∀ i, i < c → SM sg (700 + i) = sgn (S (r + 1) i)) ∧ (∀ i, i < c → cOK (S (r + 1)) i) ∧ rDep (S (r + 1)) c = D
noncomputable def xEx (r i j : Nat) : Bool := xTk i j || (i == 1 && (j == 2 || j == 3)) || (i == r && j == 3) || i == r + 1
noncomputable def mEx (w sg i j : Nat) : Bool := mTk i j || (i == 99 && (j == 27 || j == 28)) || (i == 5 && j == w) || (i == sg && 700 ≤ j)
/-- which rule it is: the prays' or the costs' of the draft -/
def rlK (r w sg : Nat) (S SM : gS) : Prop := (r = 14 ∨ r = 17 ∨ r = 82 ∨ r = 85) ∧ ((w = 10 ∧ sg = 15 ∧ SM 99 31 = 0 ∧ SM 99 3 = 0 ∧ S r 2 = 0) ∨ (w = 11 ∧ sg = 16 ∧ SM 99 31 = 1 ∧ SM 99 3 = 1 ∧ S r 2 = 1))
theorem xEx_f {r i j : Nat} (h : xEx r i j = false) : xTk i j = false ∧ ¬ (i = 1 ∧ (j = 2 ∨ j = 3)) ∧ ¬ (i = r ∧ j = 3) ∧ i ≠ r + 1 := by
  unfold xEx at h
  simp only [Bool.or_eq_false_iff, Bool.and_eq_false_iff, beq_eq_false_iff_ne] at h
  obtain ⟨⟨⟨h1, h2⟩, h3⟩, h4⟩ := h
  exact ⟨h1, by omega, by omega, h4⟩
theorem mEx_f {w sg i j : Nat} (h : mEx w sg i j = false) : mTk i j = false ∧ ¬ (i = 99 ∧ (j = 27 ∨ j = 28)) ∧ ¬ (i = 5 ∧ j = w) ∧ ¬ (i = sg ∧ 700 ≤ j) := by
  unfold mEx at h
  simp only [Bool.or_eq_false_iff, Bool.and_eq_false_iff, beq_eq_false_iff_ne, decide_eq_false_iff_not] at h
  obtain ⟨⟨⟨h1, h2⟩, h3⟩, h4⟩ := h
  exact ⟨h1, by omega, by omega, by omega⟩
/-- behind a piece: what is left on both sides -/
def OUT (B : Nat → Nat) (n r w sg c D s : Nat) (S SM S' SM' : gS) : Prop := oSame (xEx r) S S' ∧ oSame (mEx w sg) SM SM' ∧ ∃ s' p' k' c', tkJ B n s' p' k' S' SM' ∧ c' ≤ 700 ∧ S' r 3 = nI c' ∧ ((fine S' SM' ∧ rlJ r w sg c' D S' SM' ∧ ∃ e, c' = c + e ∧ s + e ≤ s') ∨ flt S' SM')
def PP (B : Nat → Nat) (n r w sg c D s : Nat) (S SM : gS) (fx fm : Option (Int32 × gS)) : Prop := ∃ v S' v' SM', fx = some (v, S') ∧ fm = some (v', SM') ∧ OUT B n r w sg c D s S SM S' SM'
section
variable {B : Nat → Nat} {n s p k r w sg c D N : Nat} {S SM : gS}
theorem rlK.on {S' SM' : gS} (h : rlK r w sg S SM) (s1 : oSame (xEx r) S S') (s2 : oSame (mEx w sg) SM SM') : rlK r w sg S' SM' := by
  obtain ⟨h1, h2⟩ := h
  have e1 : S' r 2 = S r 2 := s1 r 2 (by rcases h1 with z | z | z | z <;> rw [z] <;> rfl)
  have e2 : SM' 99 31 = SM 99 31 := s2 99 31 (by rcases h2 with ⟨z1, z2, -⟩ | ⟨z1, z2, -⟩ <;> rw [z1, z2] <;> rfl)
  have e3 : SM' 99 3 = SM 99 3 := s2 99 3 (by rcases h2 with ⟨z1, z2, -⟩ | ⟨z1, z2, -⟩ <;> rw [z1, z2] <;> rfl)
  refine ⟨h1, ?_⟩
  rw [e1, e2, e3]
  exact h2
theorem xTk.ex {S S' : gS} (h : oSame xTk S S') : oSame (xEx r) S S' := fun i j z => h i j (xEx_f z).1
theorem mTk.ex {S S' : gS} (h : oSame mTk S S') : oSame (mEx w sg) S S' := fun i j z => h i j (mEx_f z).1
/-- the first FAULT -/
theorem j_wrong {q : Nat} (hq : 1 ≤ q ∧ q ≤ 5) (T : tkJ B n s p k S SM) (F : fine S SM) : ∃ S' SM', fX3_refuse 5000 (nI q) S = some (0, S') ∧ fX12_wrong 5000 (nI q) SM = some (0, SM') ∧ flt S' SM' ∧ tkJ B n s p k S' SM' ∧ (∀ i j, ¬ (i = 1 ∧ (j = 2 ∨ j = 3)) → S' i j = S i j) ∧ (∀ i j, ¬ (i = 99 ∧ (j = 27 ∨ j = 28)) → SM' i j = SM i j) := by
  obtain ⟨⟨b1, b2⟩, ⟨t1, t2, t3, t4⟩, ⟨u1, u2, u3, u4, u5⟩, c0, v0⟩ := T
  have kx : ∀ i j, ¬ (i = 1 ∧ (j = 2 ∨ j = 3)) → sU (sU S 1 2 (nI q)) 1 3 (nI s) i j = S i j := fun i j z => by rw [sU_n (by omega), sU_n (by omega)]
  have km : ∀ i j, ¬ (i = 99 ∧ (j = 27 ∨ j = 28)) → sU (sU SM 99 27 (nI q)) 99 28 (nI s) i j = SM i j := fun i j z => by rw [sU_n (by omega), sU_n (by omega)]
  refine ⟨sU (sU S 1 2 (nI q)) 1 3 (nI s), sU (sU SM 99 27 (nI q)) 99 28 (nI s), ?_, ?_, ⟨q, hq.1, hq.2, ?_, ?_, ?_⟩, ⟨⟨b1, fun i hi => ?_⟩, ⟨?_, ?_, ?_, ?_⟩, ⟨?_, ?_, ?_, ?_, ?_⟩, c0, fun z => ?_⟩, kx, km⟩
  · unfold fX3_refuse fX3_refuse_b0
    rw [bnd_t (show fX3_isFine 5000 S = some (1, S) by unfold fX3_isFine fX3_isFine_b0; rw [if_pos F.1.1]; rfl)]
    show fX3_refuse_b7 5000 (nI q) S = _
    unfold fX3_refuse_b7
    dsimp only [lt]
    rw [show sU S 1 2 (nI q) 2 5 = nI s by rw [sU_n (by omega)]; exact t3]
    rfl
  · unfold fX12_wrong fX12_wrong_b0
    rw [if_pos F.2]
    unfold fX12_wrong_b8
    dsimp only [lt]
    rw [show sU SM 99 27 (nI q) 99 25 = nI s by rw [sU_n (by omega)]; exact u4]
  · rw [sU_n (by omega), sU_ap, if_pos ⟨rfl, rfl⟩]
  · rw [sU_n (by omega), sU_ap, if_pos ⟨rfl, rfl⟩]
  · rw [sU_ap, if_pos ⟨rfl, rfl⟩, sU_ap, if_pos ⟨rfl, rfl⟩]
  · rw [kx 3 i (by omega), km 19 i (by omega)]; exact b2 i hi
  · rw [kx 2 2 (by omega)]; exact t1
  · rw [kx 2 3 (by omega)]; exact t2
  · rw [kx 2 5 (by omega)]; exact t3
  · rw [kx 2 4 (by omega)]; exact t4
  · rw [km 99 22 (by omega)]; exact u1
  · rw [km 99 21 (by omega)]; exact u2
  · rw [km 99 26 (by omega)]; exact u3
  · rw [km 99 25 (by omega)]; exact u4
  · rw [km 99 23 (by omega)]; exact u5
  · rw [kx 2 6 (by omega), km 99 24 (by omega)]; exact v0 z
theorem flt_x (h : flt S SM) : fX3_isFine N S = some (0, S) ∧ SM 99 27 ≠ 0 ∧ ∀ q, fX3_refuse N q S = some (0, S) := by
  obtain ⟨k, k1, k2, k3, k4, k5⟩ := h
  have hne : ¬ nI k = 0 := fun z => absurd ((nI_eq (b := 0) (by omega) (by omega)).mp z) (by omega)
  have h1 : fX3_isFine N S = some (0, S) := by
    unfold fX3_isFine fX3_isFine_b0
    rw [k3, if_neg hne]
    rfl
  refine ⟨h1, by rw [k4]; exact hne, fun q => ?_⟩
  unfold fX3_refuse fX3_refuse_b0
  rw [bnd_t h1]
  rfl
theorem fine_x (h : fine S SM) : fX3_isFine N S = some (1, S) := by
  unfold fX3_isFine fX3_isFine_b0
  rw [if_pos h.1.1]
  rfl
/-- a code too many, behind a FAULT: it changes nothing that is told -/
theorem x_add0 {x : Int32} (hc : c ≤ 700) (h : S r 3 = nI c) : ∃ S' c', fX4_add 5000 r x S = some (0, S') ∧ c' ≤ 700 ∧ S' r 3 = nI c' ∧ ∀ i j, ¬ (i = r ∧ j = 3) → i ≠ r + 1 → S' i j = S i j := by
  unfold fX4_add fX4_add_b0
  rw [h]
  by_cases z : c < 700
  · rw [if_neg (show ¬ (700 : Int32) ≤ nI c from nI_ge (b := 700) z (by decide))]
    refine ⟨sU (sU S (r + 1) c x) r 3 (nI (c + 1)), c + 1, ?_, by omega, by rw [sU_ap, if_pos ⟨rfl, rfl⟩], fun i j y1 y2 => by rw [sU_n y1, sU_ne y2]⟩
    unfold fX4_add_b12
    dsimp only [lt]
    rw [h, chk_t (inb_t z (by decide)), nI_clamp (by omega), sU_ne (show r ≠ r + 1 by omega), h, nI_1 c]
    rfl
  · rw [if_pos (show (700 : Int32) ≤ nI c from nI_le (a := 700) (by omega) (by omega))]
    exact ⟨S, c, rfl, hc, h, fun _ _ _ _ => rfl⟩
theorem rDep_eq {a b : Nat → Int32} : ∀ m, (∀ i, i < m → a i = b i) → rDep a m = rDep b m := by
  intro m
  induction m with
  | zero => intro _; rfl
  | succ m ih =>
    intro h
    have e := ih (fun i hi => h i (by omega))
    show (if a m < 10010 then rDep a m + 1 else if a m = 10010 then rDep a m else rDep a m - 1) = (if b m < 10010 then rDep b m + 1 else if b m = 10010 then rDep b m else rDep b m - 1)
    rw [e, h m (by omega)]
end
