/-! drought on a fresh object: there is no GUILD -/
def Fr (SX SM : gS) : Prop := JJ SX SM ∧ SX (xtw SX) 5 = 0
theorem Fr_0 : Fr xS0 mS0 := ⟨JJ_0, rfl⟩
theorem st_drought : Lw_drought Fr JJ := by
  intro SX SM x1 x2 x3 hF
  obtain ⟨hJ, hn⟩ := hF
  obtain ⟨S1, Z, h, qs, hS1, c0, hJ1, Zk, h9, C, M, K, w41, x0, x5⟩ := pre hJ
  have z6 := Zk.2.1.2
  have z0 : tn1 Z = 0 := by
    have e : nI (tn1 Z) = nI 0 := x5.symm.trans hn
    have e2 := congrArg Int32.toInt e
    rw [nI_toInt (by omega), nI_toInt (by omega)] at e2
    omega
  have h1 : inb x1 (tn1 Z) = false := by
    rw [z0]
    unfold inb
    exact decide_eq_false (fun q => q (Or.inr (Nat.zero_le _)))
  have hF : fX12_drought 5000 x1 x2 x3 SM = if iv (inb x1 (tn1 Z)) = 0 then fX12_drought_b13 5000 S1 else fX12_drought_b19 5000 x1 x2 x3 S1 := by
    unfold fX12_drought fX12_drought_b0
    dsimp only [lt]
    rw [← hS1, bnd_t (m_isGuild M.1.2.1 (by omega))]
  refine stFl 5000 5000 1 hJ one_ne (Or.inr (Or.inl rfl)) (ngF x5 (by omega) h1) ?_
  show fX12_drought 5000 x1 x2 x3 SM = _
  rw [hF, h1, ← hS1]
  rfl
