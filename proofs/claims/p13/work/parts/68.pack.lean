/-! part 9794.guild -/
section
section
variable {B : Nat → Nat} {n s p k U g0 g1 nw b c1 c2 tk : Nat} {S SM S' SM' S1 SM1 S2 SM2 : gS}
/-- a draft where a GUILD has come -/
theorem dr_guild (hT : U = 72 ∨ U = 4) (hg1 : g1 < 6) (hd : drK U g0 g1 nw b c1 c2 tk S SM) (X : ∀ i j, xNu i j = false → ¬ (i = U ∧ j = 5) → ¬ ((U + 5 ≤ i ∧ i ≤ U + 8) ∧ j = g1) → S' i j = S i j) (M : ∀ i j, mNu i j = false → ¬ (i = 5 ∧ j = 7) → ¬ (i = 99 ∧ j = 30) → ¬ ((10 ≤ i ∧ i ≤ 13) ∧ j = 6 + g1) → SM' i j = SM i j) (h5 : S' U 5 = nI (g1 + 1)) (m5 : SM' 5 7 = nI (g1 + 1)) (hH : dH U g0 g1 S' SM') (ht : (S' (U + 8) g1 = -1 ∧ SM' 99 30 = nI tk) ∨ ∃ y, y < g0 ∧ S' (U + 8) g1 = nI y ∧ tk.testBit y = false ∧ SM' 99 30 = nI (tk ||| 2 ^ y)) : ∃ tk', drK U g0 (g1 + 1) nw b c1 c2 tk' S' SM' := by
  replace ht : hid _ := ht
  obtain ⟨d1, ⟨e1, e2, e3, e4, e5, e6, e7, e8⟩, d3, d4, d5, d6⟩ := hd
  have hg0 : g0 ≤ 8 := d1.2.2.1
  have X' : ∀ i j, U ≤ i → ¬ (i = U ∧ j = 5) → ¬ ((U + 5 ≤ i ∧ i ≤ U + 8) ∧ j = g1) → S' i j = S i j := fun i j z1 z2 z3 => X i j (xNu_u (by omega) (by omega)) z2 z3
  have M' : ∀ i j, i ≠ 99 → ¬ (i = 5 ∧ j = 7) → ¬ ((10 ≤ i ∧ i ≤ 13) ∧ j = 6 + g1) → SM' i j = SM i j := fun i j z1 z2 z3 => M i j (mNu_u z1) z2 (by omega) z3
  have x8 : ∀ g, g < g1 → S' (U + 8) g = S (U + 8) g := fun g hg => X' (U + 8) g (by omega) (by omega) (by omega)
  have main : ∀ tk', SM' 99 30 = nI tk' → tk' < 256 → (∀ q, q < 8 → (tk'.testBit q = true ↔ ∃ g, g < g1 + 1 ∧ S' (U + 8) g = nI q)) → (∀ g, g < g1 → S (U + 8) g = S' (U + 8) g1 → S' (U + 8) g1 ≠ -1 → False) → drK U g0 (g1 + 1) nw b c1 c2 tk' S' SM' := by
    intro tk' t1 t2 t3 t4
    refine ⟨d1.on (X' _ _ (by omega) (by omega) (by omega)) (fun i j _ _ => X' i j (by omega) (by omega) (by omega)) (M' _ _ (by omega) (by omega) (by omega)) (fun i j _ _ => M' i j (by omega) (by omega) (by omega)), ⟨h5, m5, by omega, fun g hg => ?_, fun g g' hg hg' z1 z2 => ?_, t1, t2, t3⟩, d3.on (X' _ _ (by omega) (by omega) (by omega)) (fun j => X' _ j (by omega) (by omega) (by omega)) (M' _ _ (by omega) (by omega) (by omega)) (fun j => M' _ j (by omega) (by omega) (by omega)), d4.on (X' _ _ (by omega) (by omega) (by omega)) (M' _ _ (by omega) (by omega) (by omega)), d5.on (fun i j _ => X' i j (by omega) (by omega) (by omega)) (M' _ _ (by omega) (by omega) (by omega)) (fun j => M' _ j (by omega) (by omega) (by omega)), d6.on (fun i j _ => X' i j (by omega) (by omega) (by omega)) (M' _ _ (by omega) (by omega) (by omega)) (fun j => M' _ j (by omega) (by omega) (by omega))⟩
    · by_cases e : g = g1
      · subst e
        exact hH
      · exact (e4 g (by omega)).on (fun i _ _ => X' i g (by omega) (by omega) (by omega)) (fun i _ _ => M' i _ (by omega) (by omega) (by omega))
    · by_cases e : g = g1
      · by_cases e' : g' = g1
        · omega
        · subst e
          exact (t4 g' (by omega) (by rw [← x8 g' (by omega)]; exact z1.symm) z2).elim
      · by_cases e' : g' = g1
        · subst e'
          exact (t4 g (by omega) (by rw [← x8 g (by omega)]; exact z1) (by rw [← z1]; exact z2)).elim
        · rw [x8 g (by omega), x8 g' (by omega)] at z1
          rw [x8 g (by omega)] at z2
          exact e5 g g' (by omega) (by omega) z1 z2
  rcases (show _ ∨ _ from ht) with ⟨t1, t2⟩ | ⟨y, y0, y1, y2, y3⟩
  · refine ⟨tk, main tk t2 e7 (fun q hq => ?_) (fun g hg z1 z2 => z2 t1)⟩
    rw [e8 q hq]
    constructor
    · rintro ⟨g, z1, z2⟩
      exact ⟨g, by omega, by rw [x8 g z1]; exact z2⟩
    · rintro ⟨g, z1, z2⟩
      by_cases e : g = g1
      · subst e
        rw [t1] at z2
        exact absurd z2.symm (nI_nem (by omega))
      · exact ⟨g, by omega, by rw [← x8 g (by omega)]; exact z2⟩
  · have no : ∀ g, g < g1 → ¬ S (U + 8) g = nI y := fun g hg z => by
      have := (e8 y (by omega)).mpr ⟨g, hg, z⟩
      rw [y2] at this
      cases this
    refine ⟨tk ||| 2 ^ y, main _ y3 (tk_bt tk e7 y (by omega)).2.2 (fun q hq => ?_) (fun g hg z1 z2 => no g hg (z1.trans y1))⟩
    rw [Nat.testBit_or, Nat.testBit_two_pow, Bool.or_eq_true, e8 q hq, decide_eq_true_iff]
    constructor
    · rintro (⟨g, z1, z2⟩ | z)
      · exact ⟨g, by omega, by rw [x8 g z1]; exact z2⟩
      · subst z
        exact ⟨g1, by omega, y1⟩
    · rintro ⟨g, z1, z2⟩
      by_cases e : g = g1
      · subst e
        rw [y1] at z2
        exact Or.inr ((nI_eq (by omega) (by omega)).mp z2)
      · exact Or.inl ⟨g, by omega, by rw [← x8 g (by omega)]; exact z2⟩
/-- a GUILD's LINE -/
theorem L_guild (hd : drK U g0 g1 nw b c1 c2 tk S SM) (hU : xdr S = U) (T : tkJ B n s p k S SM) (F : fine S SM) (k0 : k ≠ 0) : ∃ S' SM', fX3_readGuild 5000 S = some (0, S') ∧ fX12_sayGuild 5000 SM = some (0, SM') ∧ LIN B n U s S SM S' SM' (doneV nw b c1 c2) := by
  have hT := xdr_cases (S := S)
  rw [hU] at hT
  obtain ⟨e1, e2, e3, e4, e5, e6, e7, e8⟩ := hd.2.1
  obtain ⟨f1, f2, f3, -⟩ := hd.1
  by_cases hg : g1 < 6
  · obtain ⟨S1, SM1, s1, p1, k1, a1, a2, T1, F1, a5, a6, a7⟩ := j_tok T F k0
    obtain ⟨v, Sa, v', Ma, b1, b2, oa1, oa2, sa, pa, ka, Ta, ha⟩ := j_put (A := U + 5) (b := g1) (M := 10) (m := 6 + g1) (lo := 0) (hi := 9) (by decide) (by decide) (by omega) (by decide) T1 (Or.inl F1)
    replace ha : hid _ := ha
    obtain ⟨w, Sb, w', Mb, r1, r2, ob1, ob2, sb, pb, kb, Tb, hb⟩ := j_put (A := U + 6) (b := g1) (M := 11) (m := 6 + g1) (lo := 0) (hi := 99) (by decide) (by decide) (by omega) (by decide) Ta (Or.elim (show _ ∨ _ from ha) (fun z => Or.inl z.2.2.1) Or.inr)
    replace hb : hid _ := hb
    obtain ⟨u, Sc, u', Mc, t1, t2, oc1, oc2, sc, pc, kc, Tc, hc⟩ := j_put (A := U + 7) (b := g1) (M := 12) (m := 6 + g1) (lo := 0) (hi := 999) (by decide) (by decide) (by omega) (by decide) Tb (Or.elim (show _ ∨ _ from hb) (fun z => Or.inl z.2.2.1) Or.inr)
    replace hc : hid _ := hc
    have xr : ∀ S', S' 1 1 = S 1 1 → xdr S' = U := fun S' z => (xdr_on z).trans hU
    have y1 : S1 1 1 = S 1 1 := a6 1 1 rfl
    have ya : sU Sa (U + 5) g1 v 1 1 = S 1 1 := by rw [sU_n (by omega), oa1 1 1 rfl]; exact y1
    have yb : sU Sb (U + 6) g1 w 1 1 = S 1 1 := by rw [sU_n (by omega), ob1 1 1 rfl]; exact ya
    have yc : sU Sc (U + 7) g1 u 1 1 = S 1 1 := by rw [sU_n (by omega), oc1 1 1 rfl]; exact yb
    obtain ⟨S5, h5⟩ : ∃ z, z = sU (sU Sc (U + 7) g1 u) (U + 8) g1 (-1) := ⟨_, rfl⟩
    obtain ⟨M5, m5⟩ : ∃ z, z = sU (sU Mc 12 (6 + g1) u') 13 (6 + g1) (-1) := ⟨_, rfl⟩
    have X5 : ∀ i j, xNu i j = false → ¬ ((U + 5 ≤ i ∧ i ≤ U + 8) ∧ j = g1) → S5 i j = S i j := fun i j z1 z2 => by
      rw [h5, sU_n (by omega), sU_n (by omega), oc1 i j z1, sU_n (by omega), ob1 i j z1, sU_n (by omega), oa1 i j z1]
      exact a6 i j (xNu_f z1).1
    have M5f : ∀ i j, mNu i j = false → ¬ ((10 ≤ i ∧ i ≤ 13) ∧ j = 6 + g1) → M5 i j = SM i j := fun i j z1 z2 => by
      rw [m5, sU_n (by omega), sU_n (by omega), oc2 i j z1, sU_n (by omega), ob2 i j z1, sU_n (by omega), oa2 i j z1]
      exact a7 i j (mNu_f z1).1
    have T5 : tkJ B n sc pc kc S5 M5 := Tc.on (fun j => by rw [h5, sU_n (by omega)]) (fun j => by rw [h5, sU_n (by omega)]) (fun j _ _ => by rw [m5, sU_n (by omega)]) (fun j _ => by rw [m5, sU_n (by omega)])
    have hU5 : xdr S5 = U := xr S5 (X5 1 1 rfl (by omega))
    have q5 : S5 U 5 = nI g1 := (X5 U 5 (xNu_u (by omega) (by omega)) (by omega)).trans e1
    have n5 : M5 5 7 = nI g1 := (M5f 5 7 rfl (by omega)).trans e2
    have eX : fX3_readGuild 5000 S = bnd (fX3_isFine 5000 S5) (fun q5 => if q5.1 = 0 then fX3_readGuild_b125 5000 q5.2 else fX3_readGuild_b93 5000 (nI g1) q5.2) := by
      unfold fX3_readGuild fX3_readGuild_b0
      dsimp only [lt]
      rw [hU, e1, if_pos (show nI g1 < 6 from nI_lt (b := 6) hg (by decide))]
      unfold fX3_readGuild_b20
      dsimp only [lt]
      rw [bnd_t a1]
      dsimp only
      rw [xr S1 y1, bnd_t (show fX3_readNumber 5000 0 9 S1 = _ from b1)]
      dsimp only
      rw [chk_t (inb_t hg (by decide)), nI_clamp (by omega), xr _ ya, bnd_t (show fX3_readNumber 5000 0 99 _ = _ from r1)]
      dsimp only
      rw [chk_t (inb_t hg (by decide)), xr _ yb, bnd_t (show fX3_readNumber 5000 0 999 _ = _ from t1)]
      dsimp only
      rw [chk_t (inb_t hg (by decide)), xr _ yc, chk_t (inb_t hg (by decide)), h5]
    have eM : fX12_sayGuild 5000 SM = bnd (fX12_is 5000 44 M5) (fun q4 => if q4.1 = 0 then fX12_sayGuild_b168 5000 q4.2 else fX12_sayGuild_b79 5000 (nI (6 + g1)) q4.2) := by
      have z6 : (6 : Int32) + nI g1 = nI (6 + g1) := by rw [show (6 : Int32) = nI 6 from rfl, nI_add]
      have i12 : inb (nI (6 + g1)) 12 = true := inb_t (by omega) (by decide)
      have c12 : (nI (6 + g1)).toNatClampNeg = 6 + g1 := nI_clamp (by omega)
      have s57 : SM1 5 7 = nI g1 := (a7 5 7 rfl).trans e2
      unfold fX12_sayGuild fX12_sayGuild_b0
      have an : fX12_another 5000 1 6 SM = some (1, SM1) := by
        rw [show fX12_another 5000 1 6 SM = _ from m_another (w := 1) (c := g1) (mo := 6) (by decide) (by omega) (by decide) e2, if_neg (by omega)]
        unfold fX12_another_b18
        rw [if_pos F.2]
        unfold fX12_another_b27
        rw [bnd_t a2]
      rw [bnd_t an]
      show fX12_sayGuild_b11 5000 SM1 = _
      unfold fX12_sayGuild_b11
      dsimp only [lt]
      rw [s57, z6, bnd_t (show fX12_readNumber 5000 0 9 SM1 = _ from b2)]
      dsimp only
      rw [chk_t i12, c12, bnd_t (show fX12_readNumber 5000 0 99 _ = _ from r2)]
      dsimp only
      rw [chk_t i12, bnd_t (show fX12_readNumber 5000 0 999 _ = _ from t2)]
      dsimp only
      rw [chk_t i12, chk_t i12, m5]
    have eb125 : ∀ S' : gS, xdr S' = U → S' U 5 = nI g1 → fX3_readGuild_b125 5000 S' = some (0, sU S' U 5 (nI (g1 + 1))) := by
      intro S' z1 z2
      unfold fX3_readGuild_b125
      dsimp only [lt]
      rw [z1, z2, nI_1 g1]
    have eb168 : ∀ M' : gS, M' 5 7 = nI g1 → fX12_sayGuild_b168 5000 M' = some (0, sU M' 5 7 (nI (g1 + 1))) := by
      intro M' z
      unfold fX12_sayGuild_b168
      dsimp only [lt]
      rw [z, nI_1 g1]
    have fl : ∀ S' M' : gS, flt S' M' → flt (sU S' U 5 (nI (g1 + 1))) (sU M' 5 7 (nI (g1 + 1))) := by
      rintro S' M' ⟨q, q1, q2, q3, q4, q5⟩
      exact ⟨q, q1, q2, by rw [sU_n (by omega)]; exact q3, by rw [sU_n (by omega)]; exact q4, by rw [sU_n (by omega), sU_n (by omega)]; exact q5⟩
    have tk9 : ∀ (S' M' : gS) (s' p' k' : Nat), tkJ B n s' p' k' S' M' → tkJ B n s' p' k' (sU S' U 5 (nI (g1 + 1))) (sU M' 5 7 (nI (g1 + 1))) := fun S' M' s' p' k' t => t.on (fun j => sU_n (by omega)) (fun j => sU_n (by omega)) (fun j _ _ => sU_n (by omega)) (fun j _ => sU_n (by omega))
    rcases (show _ ∨ _ from hc) with ⟨fc1, fc2, fc3, y, y1', y2, rfl, rfl⟩ | hc'
    · rcases (show _ ∨ _ from hb) with ⟨gb1, gb2, gb3, z, z1, z2, rfl, rfl⟩ | hb'
      · rcases (show _ ∨ _ from ha) with ⟨l1, l2, l3, o, o1, o2, rfl, rfl⟩ | ha'
        · have F5 : fine S5 M5 := ⟨⟨by rw [h5, sU_n (by omega)]; exact fc3.1.1, by rw [h5, sU_n (by omega)]; exact fc3.1.2⟩, by rw [m5, sU_n (by omega)]; exact fc3.2⟩
          have xU : ∀ i j, (i = U + 5 ∨ i = U + 6 ∨ i = U + 7 ∨ i = U + 8) → xNu i j = false := fun i j z => xNu_u (by omega) (by omega)
          have v5 : S5 (U + 5) g1 = nI o := by rw [h5, sU_n (by omega), sU_n (by omega), oc1 _ _ (xU _ _ (by omega)), sU_n (by omega), ob1 _ _ (xU _ _ (by omega)), sU_s]
          have w5 : M5 10 (6 + g1) = nI o := by rw [m5, sU_n (by omega), sU_n (by omega), oc2 10 _ rfl, sU_n (by omega), ob2 10 _ rfl, sU_s]
          have v6 : S5 (U + 6) g1 = nI z := by rw [h5, sU_n (by omega), sU_n (by omega), oc1 _ _ (xU _ _ (by omega)), sU_s]
          have w6 : M5 11 (6 + g1) = nI z := by rw [m5, sU_n (by omega), sU_n (by omega), oc2 11 _ rfl, sU_s]
          have v7 : S5 (U + 7) g1 = nI y := by rw [h5, sU_n (by omega), sU_s]
          have w7 : M5 12 (6 + g1) = nI y := by rw [m5, sU_n (by omega), sU_s]
          have v8 : S5 (U + 8) g1 = -1 := by rw [h5, sU_s]
          have w8 : M5 13 (6 + g1) = -1 := by rw [m5, sU_s]
          have eX2 : fX3_readGuild 5000 S = if iv (isW B kc sc pc 5) = 0 then fX3_readGuild_b125 5000 S5 else fX3_readGuild_b105 5000 (nI g1) S5 := by
            rw [eX, bnd_t (fine_x F5)]
            show fX3_readGuild_b93 5000 (nI g1) S5 = _
            unfold fX3_readGuild_b93
            rw [bnd_t (x_isAtWord (by decide) T5)]
          have eM2 : fX12_sayGuild 5000 SM = if iv (isW B kc sc pc 5) = 0 then fX12_sayGuild_b168 5000 M5 else fX12_sayGuild_b79 5000 (nI (6 + g1)) M5 := by
            rw [eM, bnd_t (m_is (by decide) T5 F5.2)]
            rfl
          cases hw : isW B kc sc pc 5 with
          | false =>
            rw [hw] at eX2 eM2
            refine ⟨_, _, eX2.trans (eb125 S5 hU5 q5), eM2.trans (eb168 M5 n5), fun i j z1 z2 => ?_, fun i j z1 z2 => ?_, sc, pc, kc, tk9 _ _ _ _ _ T5, Or.inl ⟨⟨⟨by rw [sU_n (by omega)]; exact F5.1.1, by rw [sU_n (by omega)]; exact F5.1.2⟩, by rw [sU_n (by omega)]; exact F5.2⟩, by omega, ?_⟩⟩
            · rw [sU_n (by omega)]; exact X5 i j z1 (by omega)
            · unfold mBig at z2
              rw [sU_n (by omega)]; exact M5f i j z1 (by omega)
            · obtain ⟨tk', h⟩ := dr_guild (S' := sU S5 U 5 (nI (g1 + 1))) (SM' := sU M5 5 7 (nI (g1 + 1))) hT hg hd (fun i j z1 z2 z3 => by rw [sU_n z2]; exact X5 i j z1 z3) (fun i j z1 z2 _ z3 => by rw [sU_n z2]; exact M5f i j z1 z3) sU_s sU_s ⟨⟨o, o2, by rw [sU_n (by omega)]; exact v5, by rw [sU_n (by omega)]; exact w5⟩, ⟨z, z2, by rw [sU_n (by omega)]; exact v6, by rw [sU_n (by omega)]; exact w6⟩, ⟨y, y2, by rw [sU_n (by omega)]; exact v7, by rw [sU_n (by omega)]; exact w7⟩, by rw [sU_n (by omega), sU_n (by omega), v8, w8], Or.inl (by rw [sU_n (by omega)]; exact v8)⟩ (Or.inl ⟨by rw [sU_n (by omega)]; exact v8, by rw [sU_n (by omega)]; exact (M5f 99 30 rfl (by omega)).trans e6⟩)
              exact ⟨g0, g1 + 1, nw, b, c1, c2, tk', h, rfl⟩
          | true =>
            rw [hw] at eX2 eM2
            obtain ⟨S6, SM6, s6, p6, k6, i1, i2, T6, F6, i5, i6, i7⟩ := j_tok T5 F5 (isW_k hw)
            have X6 : ∀ i j, xNu i j = false → ¬ ((U + 5 ≤ i ∧ i ≤ U + 8) ∧ j = g1) → S6 i j = S i j := fun i j z1 z2 => (i6 i j (xNu_f z1).1).trans (X5 i j z1 z2)
            have M6 : ∀ i j, mNu i j = false → ¬ ((10 ≤ i ∧ i ≤ 13) ∧ j = 6 + g1) → SM6 i j = SM i j := fun i j z1 z2 => (i7 i j (mNu_f z1).1).trans (M5f i j z1 z2)
            have hU6 : xdr S6 = U := xr S6 (X6 1 1 rfl (by omega))
            obtain ⟨v, S7, SM7, j1, j2, j3, j4, s7, p7, k7, T7, j5⟩ := j_hired (g0 := g0) (g1 := g1) (U := U) (tk := tk) hg hU6 hT ((X6 U 0 (xNu_u (by omega) (by omega)) (by omega)).trans f1) ((M6 5 6 rfl (by omega)).trans f2) f3 ((X6 U 5 (xNu_u (by omega) (by omega)) (by omega)).trans e1) ((M6 99 30 rfl (by omega)).trans e6) e7 (fun q hq => by
              rw [e8 q hq]
              constructor
              · rintro ⟨g, c1, c2⟩
                exact ⟨g, c1, by rw [X6 (U + 8) g (xNu_u (by omega) (by omega)) (by omega)]; exact c2⟩
              · rintro ⟨g, c1, c2⟩
                exact ⟨g, c1, by rw [← X6 (U + 8) g (xNu_u (by omega) (by omega)) (by omega)]; exact c2⟩) T6 F6
            replace j5 : hid _ := j5
            have X7 : ∀ i j, xNu i j = false → ¬ ((U + 5 ≤ i ∧ i ≤ U + 8) ∧ j = g1) → sU S7 (U + 8) g1 v i j = S i j := fun i j z1 z2 => by
              rw [sU_n (by omega), j3 i j z1]
              exact X6 i j z1 z2
            have M7 : ∀ i j, mNu i j = false → ¬ (i = 99 ∧ j = 30) → ¬ ((10 ≤ i ∧ i ≤ 13) ∧ j = 6 + g1) → SM7 i j = SM i j := fun i j z1 z2 z3 => by
              rw [j4 i j z1 z2 (by omega)]
              exact M6 i j z1 z3
            have eX3 : fX3_readGuild 5000 S = some (0, sU (sU S7 (U + 8) g1 v) U 5 (nI (g1 + 1))) := by
              refine eX2.trans ?_
              show fX3_readGuild_b105 5000 (nI g1) S5 = _
              unfold fX3_readGuild_b105
              dsimp only [lt]
              rw [bnd_t i1]
              dsimp only
              rw [hU6, bnd_t j1]
              dsimp only
              rw [chk_t (inb_t hg (by decide)), nI_clamp (by omega)]
              exact eb125 _ (xr _ (X7 1 1 rfl (by omega))) ((X7 U 5 (xNu_u (by omega) (by omega)) (by omega)).trans e1)
            have eM3 : fX12_sayGuild 5000 SM = some (0, sU SM7 5 7 (nI (g1 + 1))) := by
              refine eM2.trans ?_
              show fX12_sayGuild_b79 5000 (nI (6 + g1)) M5 = _
              unfold fX12_sayGuild_b79
              rw [bnd_t i2]
              exact j2.trans (eb168 SM7 ((M7 5 7 rfl (by omega) (by omega)).trans e2))
            have T8 : tkJ B n s7 p7 k7 (sU S7 (U + 8) g1 v) SM7 := T7.on (fun j => sU_n (by omega)) (fun j => sU_n (by omega)) (fun _ _ _ => rfl) (fun _ _ => rfl)
            refine ⟨_, _, eX3, eM3, fun i j z1 z2 => ?_, fun i j z1 z2 => ?_, s7, p7, k7, tk9 _ _ _ _ _ T8, ?_⟩
            · rw [sU_n (by omega)]; exact X7 i j z1 (by omega)
            · unfold mBig at z2
              rw [sU_n (by omega)]; exact M7 i j z1 (by omega) (by omega)
            · rcases (show _ ∨ _ from j5) with ⟨F7, x1, t, x2, rfl, x4, x5, x6⟩ | h
              · have k8 : ∀ i, i ≠ U + 8 → i ≠ U → U ≤ i → i ≤ U + 8 → sU (sU S7 (U + 8) g1 (nI t)) U 5 (nI (g1 + 1)) i g1 = S5 i g1 := fun i z1 z2 z3 z4 => by
                  rw [sU_n (by omega), sU_n (by omega), j3 i g1 (xNu_u (by omega) (by omega)), i6 i g1 (xNu_f (xNu_u (by omega) (by omega))).1]
                have k9 : ∀ i, 10 ≤ i → i ≤ 12 → sU SM7 5 7 (nI (g1 + 1)) i (6 + g1) = M5 i (6 + g1) := fun i z1 z2 => by
                  rw [sU_n (by omega), j4 i _ (mNu_u (by omega)) (by omega) (by omega), i7 i _ (mNu_f (mNu_u (by omega))).1]
                have k88 : sU (sU S7 (U + 8) g1 (nI t)) U 5 (nI (g1 + 1)) (U + 8) g1 = nI t := by rw [sU_n (by omega), sU_s]
                obtain ⟨tk', h⟩ := dr_guild (S' := sU (sU S7 (U + 8) g1 (nI t)) U 5 (nI (g1 + 1))) (SM' := sU SM7 5 7 (nI (g1 + 1))) hT hg hd (fun i j z1 z2 z3 => by rw [sU_n z2]; exact X7 i j z1 z3) (fun i j z1 z2 z4 z3 => by rw [sU_n z2]; exact M7 i j z1 z4 z3) sU_s sU_s ⟨⟨o, o2, by rw [k8 _ (by omega) (by omega) (by omega) (by omega)]; exact v5, by rw [k9 _ (by omega) (by omega)]; exact w5⟩, ⟨z, z2, by rw [k8 _ (by omega) (by omega) (by omega) (by omega)]; exact v6, by rw [k9 _ (by omega) (by omega)]; exact w6⟩, ⟨y, y2, by rw [k8 _ (by omega) (by omega) (by omega) (by omega)]; exact v7, by rw [k9 _ (by omega) (by omega)]; exact w7⟩, by rw [k88, sU_n (by omega), x6], Or.inr ⟨t, x2, k88⟩⟩ (Or.inr ⟨t, x2, k88, x4, by rw [sU_n (by omega)]; exact x5⟩)
                exact Or.inl ⟨⟨⟨by rw [sU_n (by omega), sU_n (by omega)]; exact F7.1.1, by rw [sU_n (by omega), sU_n (by omega)]; exact F7.1.2⟩, by rw [sU_n (by omega)]; exact F7.2⟩, by omega, g0, g1 + 1, nw, b, c1, c2, tk', h, rfl⟩
              · refine Or.inr (fl _ _ ?_)
                obtain ⟨q, q1, q2, q3, q4, q5⟩ := h
                exact ⟨q, q1, q2, by rw [sU_n (by omega)]; exact q3, q4, by rw [sU_n (by omega)]; exact q5⟩
        · exact absurd gb1.2 (flt_x (N := 5000) ha').2.1
      · exact absurd fc1.2 (flt_x (N := 5000) hb').2.1
    · have f5 : flt S5 M5 := by
        obtain ⟨q, q1, q2, q3, q4, q5⟩ := hc'
        exact ⟨q, q1, q2, by rw [h5, sU_n (by omega)]; exact q3, by rw [m5, sU_n (by omega)]; exact q4, by rw [h5, m5, sU_n (by omega), sU_n (by omega)]; exact q5⟩
      refine ⟨_, _, ?_, ?_, fun i j z1 z2 => ?_, fun i j z1 z2 => ?_, sc, pc, kc, tk9 _ _ _ _ _ T5, Or.inr (fl _ _ f5)⟩
      · rw [eX, bnd_t (flt_x (N := 5000) f5).1]
        exact eb125 S5 hU5 q5
      · rw [eM, bnd_t (m_is0 (flt_x (N := 5000) f5).2.1)]
        exact eb168 M5 n5
      · rw [sU_n (by omega)]; exact X5 i j z1 (by omega)
      · unfold mBig at z2
        rw [sU_n (by omega)]; exact M5f i j z1 (by omega)
  · obtain rfl : g1 = 6 := by omega
    obtain ⟨S', SM', a1, a2, a3, a4⟩ := j_guildF T F (by rw [hU]; exact e1) e2
    exact ⟨S', SM', a1, a2, a4.lin a3⟩
end
end
