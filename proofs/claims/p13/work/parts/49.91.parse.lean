theorem tkJ.on {B : Nat → Nat} {n s p k : Nat} {S SM S' SM' : gS} (T : tkJ B n s p k S SM) (h2 : ∀ j, S' 2 j = S 2 j) (h3 : ∀ j, S' 3 j = S 3 j) (m9 : ∀ j, 21 ≤ j → j ≤ 26 → SM' 99 j = SM 99 j) (m1 : ∀ j, j < 700 → SM' 19 j = SM 19 j) : tkJ B n s p k S' SM' := by
  obtain ⟨⟨b1, b2⟩, ⟨t1, t2, t3, t4⟩, ⟨u1, u2, u3, u4, u5⟩, c0, v0⟩ := T
  refine ⟨⟨b1, fun i hi => ?_⟩, ⟨(h2 2).trans t1, (h2 3).trans t2, (h2 5).trans t3, (h2 4).trans t4⟩, ⟨(m9 22 (by decide) (by decide)).trans u1, (m9 21 (by decide) (by decide)).trans u2, (m9 26 (by decide) (by decide)).trans u3, (m9 25 (by decide) (by decide)).trans u4, (m9 23 (by decide) (by decide)).trans u5⟩, c0, fun z => ?_⟩
  · rw [h3 i, m1 i (by omega)]; exact b2 i hi
  · rw [h2 6, m9 24 (by decide) (by decide)]; exact v0 z
section
variable {B : Nat → Nat} {n s p k r w sg c D N : Nat} {S SM : gS}
theorem m_lay {x : Int32} (hK : rlK r w sg S SM) (h0 : SM 99 27 = 0) (hw : SM 5 w = nI c) (hc : c < 700) : fX12_lay 5000 x SM = some (0, sU (sU SM sg (700 + c) x) 5 w (nI (c + 1))) := by
  unfold fX12_lay fX12_lay_b0
  rw [if_pos h0]
  unfold fX12_lay_b8
  obtain ⟨-, ⟨rfl, rfl, a, -⟩ | ⟨rfl, rfl, a, -⟩⟩ := hK
  · rw [if_pos a]
    unfold fX12_lay_b21 fX12_lay_b22
    rw [if_pos a]
    unfold fX12_lay_b38 fX12_lay_b42
    dsimp only [lt]
    rw [show (6 : Int32) + 4 = nI 10 from rfl, nI_clamp (n := 10) (by decide), hw, show (700 : Int32) = nI 700 from rfl, nI_add, nI_clamp (n := 700 + c) (by omega), chk_t (inb_t (by decide) (by decide)), chk_t (inb_t (show 700 + c < mN 15 from (by have : mN 15 = 1400 := rfl; omega)) (by decide)), chk_t (inb_t (by decide) (by decide)), chk_t (inb_t (by decide) (by decide)), sU_ne (show 5 ≠ 15 by decide), hw, nI_1 c]
  · rw [if_neg (by rw [a]; decide)]
    unfold fX12_lay_b17 fX12_lay_b22
    rw [if_neg (by rw [a]; decide)]
    unfold fX12_lay_b31 fX12_lay_b42
    dsimp only [lt]
    rw [show (6 : Int32) + 5 = nI 11 from rfl, nI_clamp (n := 11) (by decide), hw, show (700 : Int32) = nI 700 from rfl, nI_add, nI_clamp (n := 700 + c) (by omega), chk_t (inb_t (by decide) (by decide)), chk_t (inb_t (show 700 + c < mN 16 from (by have : mN 16 = 1400 := rfl; omega)) (by decide)), chk_t (inb_t (by decide) (by decide)), chk_t (inb_t (by decide) (by decide)), sU_ne (show 5 ≠ 16 by decide), hw, nI_1 c]
theorem m_lay0 {x : Int32} (h0 : SM 99 27 ≠ 0) : fX12_lay 5000 x SM = some (0, SM) := by
  unfold fX12_lay fX12_lay_b0
  rw [if_neg h0]
  rfl
def okX (x : Int32) (D D' : Nat) : Prop := (((0 ≤ x ∧ x ≤ 10006) ∧ D < 31) ∨ (x = 10010 ∧ 1 ≤ D) ∨ ((10011 ≤ x ∧ x ≤ 10018) ∧ 2 ≤ D)) ∧ D' = (if x < 10010 then D + 1 else if x = 10010 then D else D - 1)
/-- both sides lay one more -/
theorem j_add {x : Int32} {D' : Nat} (T : tkJ B n s p k S SM) (F : fine S SM) (hK : rlK r w sg S SM) (R : rlJ r w sg c D S SM) (hc : c < 700) (hx : okX x D D') : ∃ S' SM', fX4_add 5000 r x S = some (0, S') ∧ fX12_lay 5000 (sgn x) SM = some (0, SM') ∧ tkJ B n s p k S' SM' ∧ fine S' SM' ∧ rlJ r w sg (c + 1) D' S' SM' ∧ oSame (xEx r) S S' ∧ oSame (mEx w sg) SM SM' := by
  obtain ⟨R1, R2, R3, R4, R5, R6⟩ := R
  have hr : r = 14 ∨ r = 17 ∨ r = 82 ∨ r = 85 := hK.1
  have hw : (w = 10 ∧ sg = 15) ∨ (w = 11 ∧ sg = 16) := by
    rcases hK.2 with ⟨a, b, -⟩ | ⟨a, b, -⟩
    · exact Or.inl ⟨a, b⟩
    · exact Or.inr ⟨a, b⟩
  obtain ⟨S', hS'⟩ : ∃ z, z = sU (sU S (r + 1) c x) r 3 (nI (c + 1)) := ⟨_, rfl⟩
  obtain ⟨SM', hSM'⟩ : ∃ z, z = sU (sU SM sg (700 + c) (sgn x)) 5 w (nI (c + 1)) := ⟨_, rfl⟩
  have kx : ∀ i j, ¬ (i = r ∧ j = 3) → ¬ (i = r + 1 ∧ j = c) → S' i j = S i j := fun i j a b => by rw [hS', sU_n a, sU_n b]
  have km : ∀ i j, ¬ (i = 5 ∧ j = w) → ¬ (i = sg ∧ j = 700 + c) → SM' i j = SM i j := fun i j a b => by rw [hSM', sU_n a, sU_n b]
  have eq : ∀ i, i < c → S' (r + 1) i = S (r + 1) i := fun i hi => kx _ _ (by omega) (by omega)
  have ec : S' (r + 1) c = x := by rw [hS', sU_n (by omega), sU_ap, if_pos ⟨rfl, rfl⟩]
  have dep : ∀ i, i ≤ c → rDep (S' (r + 1)) i = rDep (S (r + 1)) i := fun i hi => rDep_eq i (fun j hj => eq j (by omega))
  refine ⟨S', SM', ?_, ?_, ?_, ⟨?_, ?_⟩, ⟨?_, ?_, by omega, fun i hi => ?_, fun i hi => ?_, ?_⟩, fun i j z => ?_, fun i j z => ?_⟩
  · unfold fX4_add fX4_add_b0
    rw [R1, if_neg (show ¬ (700 : Int32) ≤ nI c from nI_ge (b := 700) hc (by decide))]
    unfold fX4_add_b12
    dsimp only [lt]
    rw [R1, chk_t (inb_t hc (by decide)), nI_clamp (by omega), sU_ne (show r ≠ r + 1 by omega), R1, nI_1 c, ← hS']
    rfl
  · rw [m_lay hK F.2 R2 hc, hSM']
  · refine T.on (fun j => kx 2 j (by omega) (by omega)) (fun j => kx 3 j (by omega) (by omega)) (fun j _ _ => km 99 j (by omega) (by omega)) (fun j _ => km 19 j (by omega) (by omega))
  · exact ⟨by rw [kx 1 2 (by omega) (by omega)]; exact F.1.1, by rw [kx 1 3 (by omega) (by omega)]; exact F.1.2⟩
  · rw [km 99 27 (by omega) (by omega)]; exact F.2
  · rw [hS', sU_ap, if_pos ⟨rfl, rfl⟩]
  · rw [hSM', sU_ap, if_pos ⟨rfl, rfl⟩]
  · by_cases e : i = c
    · rw [e, ec, hSM', sU_n (by omega), sU_ap, if_pos ⟨rfl, rfl⟩]
    · rw [km _ _ (by omega) (by omega), eq i (by omega)]
      exact R4 i (by omega)
  · unfold cOK
    by_cases e : i = c
    · rw [e, ec, dep c (Nat.le_refl _), R6]
      exact hx.1
    · rw [eq i (by omega), dep i (by omega)]
      exact R5 i (by omega)
  · show (if S' (r + 1) c < 10010 then rDep (S' (r + 1)) c + 1 else if S' (r + 1) c = 10010 then rDep (S' (r + 1)) c else rDep (S' (r + 1)) c - 1) = D'
    rw [ec, dep c (Nat.le_refl _), R6]
    exact hx.2.symm
  · obtain ⟨z1, z2, z3, z4⟩ := xEx_f z
    exact kx i j z3 (by omega)
  · obtain ⟨z1, z2, z3, z4⟩ := mEx_f z
    exact km i j z3 (by omega)
def OUT1 (B : Nat → Nat) (n r w sg c D s : Nat) (S SM S' SM' : gS) : Prop := oSame (xEx r) S S' ∧ oSame (mEx w sg) SM SM' ∧ ∃ s' p' k' c', tkJ B n s' p' k' S' SM' ∧ c' ≤ 700 ∧ S' r 3 = nI c' ∧ ((fine S' SM' ∧ rlJ r w sg c' D S' SM' ∧ ∃ e, 1 ≤ e ∧ c' = c + e ∧ s + e ≤ s') ∨ flt S' SM')
/-- a piece, and one more laid -/
theorem P_add {x : Int32} {D' s0 : Nat} {S1 SM1 : gS} (hK : rlK r w sg S SM) (h0 : s0 + 1 ≤ s) (hc : c + 1 ≤ s) (hx : okX x D D') (O : OUT B n r w sg c D s S SM S1 SM1) : ∃ S2 SM2, fX4_add 5000 r x S1 = some (0, S2) ∧ fX12_lay 5000 (sgn x) SM1 = some (0, SM2) ∧ OUT1 B n r w sg c D' s0 S SM S2 SM2 := by
  obtain ⟨o1, o2, s', p', k', c', T, c7, r3, h⟩ := O
  have hK1 := hK.on o1 o2
  have n7 := T.1.1
  have sn : s' ≤ n := by have := T.2.2.2.1; unfold tkK at this; omega
  rcases h with ⟨F, R, e, e1, e2⟩ | h
  · obtain ⟨S2, SM2, a1, a2, a3, a4, a5, a6, a7⟩ := j_add T F hK1 R (by omega) hx
    exact ⟨S2, SM2, a1, a2, o1.tr a6, o2.tr a7, s', p', k', c' + 1, a3, a5.2.2.1, a5.1, Or.inl ⟨a4, a5, e + 1, by omega, by omega, by omega⟩⟩
  · obtain ⟨S2, c2, a1, a2, a3, a4⟩ := x_add0 (x := x) c7 r3
    have hr : r = 14 ∨ r = 17 ∨ r = 82 ∨ r = 85 := hK.1
    refine ⟨S2, SM1, a1, m_lay0 (flt_x (N := 5000) h).2.1, o1.tr (fun i j z => ?_), o2, s', p', k', c2, T.on (fun j => a4 2 j (by omega) (by omega)) (fun j => a4 3 j (by omega) (by omega)) (fun _ _ _ => rfl) (fun _ _ => rfl), a2, a3, Or.inr ?_⟩
    · obtain ⟨z1, z2, z3, z4⟩ := xEx_f z
      exact a4 i j z3 z4
    · obtain ⟨q, q1, q2, q3, q4, q5⟩ := h
      exact ⟨q, q1, q2, by rw [a4 1 2 (by omega) (by omega)]; exact q3, q4, by rw [a4 1 3 (by omega) (by omega)]; exact q5⟩
def opLaw (B : Nat → Nat) (n r w sg d : Nat) (opX opM : gS → Option (Int32 × gS)) : Prop := ∀ S SM c s p k, tkJ B n s p k S SM → fine S SM → rlK r w sg S SM → rlJ r w sg c d S SM → c ≤ s → PP B n r w sg c (d + 1) s S SM (opX S) (opM SM)
def lpStep (B : Nat → Nat) (n r : Nat) (opX opM : gS → Option (Int32 × gS)) (HX : Nat → Int32 → gS → Option (Int32 × gS)) (HM : Nat → gS → Option (Int32 × gS)) : Prop := ∀ f f' i S SM s p k, tkJ B n s p k S SM → fine S SM → i ≤ s → (HX (f + 1) (nI i) S = some (0, S) ∧ HM (f' + 1) SM = some (0, SM)) ∨ ∃ x, (10011 ≤ x ∧ x ≤ 10018) ∧ k ≠ 0 ∧ HX (f + 1) (nI i) S = bnd (fX8_advance 5000 S) (fun q1 => bnd (opX q1.2) (fun q2 => bnd (fX4_add 5000 r x q2.2) (fun q3 => HX f (nI (i + 1)) q3.2))) ∧ HM (f' + 1) SM = bnd (fX12_stepOn 5000 SM) (fun q1 => bnd (opM q1.2) (fun q2 => bnd (fX12_lay 5000 (sgn x) q2.2) (fun q3 => HM f' q3.2)))
def lpFlt (HX : Nat → Int32 → gS → Option (Int32 × gS)) (HM : Nat → gS → Option (Int32 × gS)) : Prop := ∀ f f' i S SM, flt S SM → i ≤ 700 → HX (f + 1) (nI i) S = some (0, S) ∧ HM (f' + 1) SM = some (0, SM)
theorem okX_b {x : Int32} (h : 10011 ≤ x ∧ x ≤ 10018) (hD : 1 ≤ D) : okX x (D + 1) D := by
  refine ⟨Or.inr (Or.inr ⟨h, by omega⟩), ?_⟩
  have h1 : ¬ x < 10010 := fun z => absurd (Int32.lt_of_lt_of_le z (Int32.le_trans (by decide : (10010 : Int32) ≤ 10011) h.1)) Int32.lt_irrefl
  have h2 : ¬ x = 10010 := fun z => by rw [z] at h; exact absurd h.1 (by decide)
  rw [if_neg h1, if_neg h2]
  rfl
theorem loopP {opX opM : gS → Option (Int32 × gS)} {HX : Nat → Int32 → gS → Option (Int32 × gS)} {HM : Nat → gS → Option (Int32 × gS)} (op : opLaw B n r w sg D opX opM) (st : lpStep B n r opX opM HX HM) (sf : lpFlt HX HM) (hD : 1 ≤ D) : ∀ (m f f' i : Nat) (S SM : gS) (c s p k : Nat), n - s ≤ m → m < f → m < f' → tkJ B n s p k S SM → fine S SM → rlK r w sg S SM → rlJ r w sg c D S SM → c ≤ s → i ≤ s → PP B n r w sg c D s S SM (HX f (nI i) S) (HM f' SM) := by
  intro m
  induction m with
  | zero =>
    intro f f' i S SM c s p k hm hf hf' T F hK R hc hi
    obtain ⟨f, rfl⟩ : ∃ y, f = y + 1 := ⟨f - 1, by omega⟩
    obtain ⟨f', rfl⟩ : ∃ y, f' = y + 1 := ⟨f' - 1, by omega⟩
    have hk := T.2.2.2.1
    unfold tkK at hk
    rcases st f f' i S SM s p k T F hi with ⟨a, b⟩ | ⟨x, hx, k0, -, -⟩
    · exact ⟨0, S, 0, SM, a, b, oSame.rf, oSame.rf, s, p, k, c, T, R.2.2.1, R.1, Or.inl ⟨F, R, 0, rfl, Nat.le_refl _⟩⟩
    · have := hk.2.2.2.2 k0
      omega
  | succ m ih =>
    intro f f' i S SM c s p k hm hf hf' T F hK R hc hi
    obtain ⟨f, rfl⟩ : ∃ y, f = y + 1 := ⟨f - 1, by omega⟩
    obtain ⟨f', rfl⟩ : ∃ y, f' = y + 1 := ⟨f' - 1, by omega⟩
    have hk := T.2.2.2.1
    unfold tkK at hk
    rcases st f f' i S SM s p k T F hi with ⟨a, b⟩ | ⟨x, hx, k0, eX, eM⟩
    · exact ⟨0, S, 0, SM, a, b, oSame.rf, oSame.rf, s, p, k, c, T, R.2.2.1, R.1, Or.inl ⟨F, R, 0, rfl, Nat.le_refl _⟩⟩
    · have hsp := hk.2.2.2.2 k0
      obtain ⟨S1, SM1, s1, p1, k1, a1, a2, T1, a3, a4, a5⟩ := j_step T.1 hk.2.1 T.2.1.1 T.2.1.2.1 T.2.2.1.1 T.2.2.1.2.1
      have x4 := xTk.ex (r := r) a4
      have m5 := mTk.ex (w := w) (sg := sg) a5
      have hr : r = 14 ∨ r = 17 ∨ r = 82 ∨ r = 85 := hK.1
      have hw : (w = 10 ∧ sg = 15) ∨ (w = 11 ∧ sg = 16) := by
        rcases hK.2 with ⟨a, b, -⟩ | ⟨a, b, -⟩
        · exact Or.inl ⟨a, b⟩
        · exact Or.inr ⟨a, b⟩
      have F1 : fine S1 SM1 := ⟨⟨(a4 1 2 rfl).trans F.1.1, (a4 1 3 rfl).trans F.1.2⟩, (a5 99 27 rfl).trans F.2⟩
      have er : ∀ j, S1 r j = S r j := fun j => a4 r j (by rcases hr with z | z | z | z <;> rw [z] <;> rfl)
      have er1 : S1 (r + 1) = S (r + 1) := funext fun j => a4 (r + 1) j (by rcases hr with z | z | z | z <;> rw [z] <;> rfl)
      have R1 : rlJ r w sg c D S1 SM1 := by
        obtain ⟨R1, R2, R3, R4, R5, R6⟩ := R
        refine ⟨(er 3).trans R1, ?_, R3, fun i hi => ?_, by rw [er1]; exact R5, by rw [er1]; exact R6⟩
        · rw [a5 5 w rfl]; exact R2
        · rw [er1, a5 sg _ (by rcases hw with ⟨-, z⟩ | ⟨-, z⟩ <;> rw [z] <;> rfl)]; exact R4 i hi
      have hK1 := hK.on x4 m5
      obtain ⟨v, S2, v', SM2, b1, b2, O2⟩ := op S1 SM1 c s1 p1 k1 T1 F1 hK1 R1 (by omega)
      obtain ⟨S3, SM3, d1, d2, o1, o2, s3, p3, k3, c3, T3, c7, r3, h⟩ := P_add (x := x) (s0 := s) hK1 (by omega) (by omega) (okX_b hx hD) O2
      have ex : HX (f + 1) (nI i) S = HX f (nI (i + 1)) S3 := by
        rw [eX, bnd_t a1]
        dsimp only
        rw [bnd_t b1]
        dsimp only
        rw [bnd_t d1]
      have em : HM (f' + 1) SM = HM f' SM3 := by
        rw [eM, bnd_t a2]
        dsimp only
        rw [bnd_t b2]
        dsimp only
        rw [bnd_t d2]
      rw [ex, em]
      have hk3 := T3.2.2.2.1
      unfold tkK at hk3
      have n7 := T.1.1
      rcases h with ⟨F3, R3, e, e0, e1, e2⟩ | h
      · obtain ⟨v3, S4, v4, SM4, g1, g2, o3, o4, s4, p4, k4, c4, T4, c47, r4, h4⟩ := ih f f' (i + 1) S3 SM3 c3 s3 p3 k3 (by omega) (by omega) (by omega) T3 F3 (hK1.on o1 o2) R3 (by omega) (by omega)
        refine ⟨v3, S4, v4, SM4, g1, g2, (x4.tr o1).tr o3, (m5.tr o2).tr o4, s4, p4, k4, c4, T4, c47, r4, ?_⟩
        rcases h4 with ⟨F4, R4, e', e1', e2'⟩ | h4
        · exact Or.inl ⟨F4, R4, e + e', by omega, by omega⟩
        · exact Or.inr h4
      · obtain ⟨f, rfl⟩ : ∃ y, f = y + 1 := ⟨f - 1, by omega⟩
        obtain ⟨f', rfl⟩ : ∃ y, f' = y + 1 := ⟨f' - 1, by omega⟩
        obtain ⟨g1, g2⟩ := sf f f' (i + 1) S3 SM3 h (by omega)
        exact ⟨0, S3, 0, SM3, g1, g2, x4.tr o1, m5.tr o2, s3, p3, k3, c3, T3, c7, r3, Or.inr h⟩
/-- operands with operators between them -/
theorem binP {opX opM : gS → Option (Int32 × gS)} {HX : Nat → Int32 → gS → Option (Int32 × gS)} {HM : Nat → gS → Option (Int32 × gS)} (op0 : opLaw B n r w sg D opX opM) (op1 : opLaw B n r w sg (D + 1) opX opM) (st : lpStep B n r opX opM HX HM) (sf : lpFlt HX HM) : opLaw B n r w sg D (fun S => bnd (opX S) (fun q1 => HX 5000 0 q1.2)) (fun S => bnd (opM S) (fun q1 => HM 5000 q1.2)) := by
  intro S SM c s p k T F hK R hc
  obtain ⟨v, S2, v', SM2, b1, b2, o1, o2, s3, p3, k3, c3, T3, c7, r3, h⟩ := op0 S SM c s p k T F hK R hc
  have n7 := T.1.1
  show PP B n r w sg c (D + 1) s S SM (bnd (opX S) (fun q1 => HX 5000 0 q1.2)) (bnd (opM SM) (fun q1 => HM 5000 q1.2))
  rw [bnd_t b1, bnd_t b2]
  rcases h with ⟨F3, R3, e, e1, e2⟩ | h
  · obtain ⟨v3, S4, v4, SM4, g1, g2, o3, o4, s4, p4, k4, c4, T4, c47, r4, h4⟩ := loopP op1 st sf (by omega) n 5000 5000 0 S2 SM2 c3 s3 p3 k3 (by omega) (by omega) (by omega) T3 F3 (hK.on o1 o2) R3 (by omega) (by omega)
    refine ⟨v3, S4, v4, SM4, g1, g2, o1.tr o3, o2.tr o4, s4, p4, k4, c4, T4, c47, r4, ?_⟩
    rcases h4 with ⟨F4, R4, e', e1', e2'⟩ | h4
    · exact Or.inl ⟨F4, R4, e + e', by omega, by omega⟩
    · exact Or.inr h4
  · obtain ⟨g1, g2⟩ := sf 4999 4999 0 S2 SM2 h (by omega)
    exact ⟨0, S2, 0, SM2, g1, g2, o1, o2, s3, p3, k3, c3, T3, c7, r3, Or.inr h⟩
end
