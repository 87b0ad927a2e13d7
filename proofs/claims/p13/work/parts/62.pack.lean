/-! part 977.full -/
section
section
variable {B : Nat → Nat} {n s p k N : Nat} {S SM : gS}
/-- too many GROTTOES -/
theorem j_caveF {x x' : Int32} (T : tkJ B n s p k S SM) (F : fine S SM) (h0 : S (xdr S) 0 = nI 8) (h5 : SM 5 6 = nI 8) : ∃ S' SM', fX3_readGrotto 5000 x S = some (0, S') ∧ fX12_sayCave 5000 x' SM = some (0, SM') ∧ flt S' SM' ∧ NUM B n s S SM S' SM' False := by
  obtain ⟨S', SM', a1, a2, a3, a4⟩ := j_refuse (q := 2) (G := False) (by decide) T F
  refine ⟨S', SM', ?_, ?_, a3, a4⟩
  · unfold fX3_readGrotto fX3_readGrotto_b0
    dsimp only [lt]
    rw [h0, if_neg (by decide)]
    unfold fX3_readGrotto_b14
    rw [bnd_t (show fX3_refuse 5000 2 S = _ from a1)]
  · unfold fX12_sayCave fX12_sayCave_b0
    have an : fX12_another 5000 0 8 SM = some (0, SM') := by
      rw [show fX12_another 5000 0 8 SM = _ from m_another (w := 0) (c := 8) (mo := 8) (by decide) (by decide) (by decide) h5, if_pos rfl, bnd_t (show fX12_wrong 5000 2 SM = _ from a2)]
      show fX12_another_b18 5000 SM' = _
      unfold fX12_another_b18
      rw [if_neg (flt_x (N := 5000) a3).2.1]
      rfl
    rw [bnd_t an]
    rfl
/-- too many GUILDS -/
theorem j_guildF (T : tkJ B n s p k S SM) (F : fine S SM) (h0 : S (xdr S) 5 = nI 6) (h5 : SM 5 7 = nI 6) : ∃ S' SM', fX3_readGuild 5000 S = some (0, S') ∧ fX12_sayGuild 5000 SM = some (0, SM') ∧ flt S' SM' ∧ NUM B n s S SM S' SM' False := by
  obtain ⟨S', SM', a1, a2, a3, a4⟩ := j_refuse (q := 2) (G := False) (by decide) T F
  refine ⟨S', SM', ?_, ?_, a3, a4⟩
  · unfold fX3_readGuild fX3_readGuild_b0
    dsimp only [lt]
    rw [h0, if_neg (by decide)]
    unfold fX3_readGuild_b14
    rw [bnd_t (show fX3_refuse 5000 2 S = _ from a1)]
  · unfold fX12_sayGuild fX12_sayGuild_b0
    have an : fX12_another 5000 1 6 SM = some (0, SM') := by
      rw [show fX12_another 5000 1 6 SM = _ from m_another (w := 1) (c := 6) (mo := 6) (by decide) (by decide) (by decide) h5, if_pos rfl, bnd_t (show fX12_wrong 5000 2 SM = _ from a2)]
      show fX12_another_b18 5000 SM' = _
      unfold fX12_another_b18
      rw [if_neg (flt_x (N := 5000) a3).2.1]
      rfl
    rw [bnd_t an]
    rfl
/-- told twice: the class's side (the reference's readLine says wrong 5 itself) -/
theorem x_twice {r : Nat} {S' : gS} (a1 : fX3_refuse 5000 5 S = some (0, S')) : (∀ c, 0 < c → c < 2 ^ 31 → S r 3 = nI c → fX3_readRule 5000 r S = some (0, S')) ∧ (∀ c, 0 < c → c < 2 ^ 31 → S (xdr S) 12 = nI c → fX3_readBound 5000 S = some (0, S')) ∧ (∀ c, 0 < c → c < 2 ^ 31 → S (xdr S) 10 = nI c → fX3_readWet 5000 S = some (0, S')) := by
  refine ⟨fun c h1 h2 h => ?_, fun c h1 h2 h => ?_, fun c h1 h2 h => ?_⟩
  · unfold fX3_readRule fX3_readRule_b0
    have e : fX4_isTold 5000 r S = some (1, S) := by
      unfold fX4_isTold fX4_isTold_b0
      rw [h, if_neg (show ¬ nI c ≤ 0 from nI_ge (a := 0) h1 (by omega))]
      rfl
    rw [bnd_t e]
    show fX3_readRule_b7 5000 S = _
    unfold fX3_readRule_b7
    rw [bnd_t a1]
  · unfold fX3_readBound fX3_readBound_b0
    dsimp only [lt]
    have e : fX9_isBoundTold 5000 (xdr S) S = some (1, S) := by
      unfold fX9_isBoundTold fX9_isBoundTold_b0
      rw [h, if_neg (show ¬ nI c = 0 from fun z => absurd ((nI_eq (b := 0) (by omega) (by omega)).mp z) (by omega))]
      rfl
    rw [bnd_t e]
    show fX3_readBound_b10 5000 S = _
    unfold fX3_readBound_b10
    rw [bnd_t a1]
  · unfold fX3_readWet fX3_readWet_b0
    dsimp only [lt]
    rw [h, if_neg (show ¬ nI c ≤ 0 from nI_ge (a := 0) h1 (by omega))]
    unfold fX3_readWet_b10
    rw [bnd_t a1]
end
end
