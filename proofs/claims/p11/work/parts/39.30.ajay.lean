/-! THE MATHEMATICS. J: how the class's state and the reference's lie side by side -/
theorem sU_ap (S : gS) (a b : Nat) (x : Int32) (i j : Nat) : sU S a b x i j = if i = a ∧ j = b then x else S i j := by
  unfold sU upd
  by_cases h : i = a
  · subst h
    by_cases h2 : j = b
    · simp [h2]
    · simp [h2]
  · simp [h]
noncomputable def xSt (b : Nat) (S : gS) : Nat → Nat → Int32 := fun c g => S (b + c) g
noncomputable def mSt (S : gS) : Nat → Nat → Int32 := fun c g => if c = 0 then S 99 (37 + g) else S (31 + c) g
noncomputable def xAc (b : Nat) (S : gS) (a : Nat) : Nat → Nat → Int32 := fun c g => if c = 0 then S b (26 * a + g) else S b (26 * a + 2 + 4 * g + (c - 1))
noncomputable def mAc (b : Nat) (S : gS) (a : Nat) : Nat → Nat → Int32 := fun c g => if c = 0 then S b (26 * a + g) else S b (26 * a + 2 + 6 * (c - 1) + g)
/-- what HOURS and ACTS change: u of the class, v of the reference; n0 grottoes, n1 guilds -/
def jSt (n0 n1 : Nat) (u v : Nat → Nat → Int32) : Prop :=
  (∃ h : Nat, h ≤ 999 ∧ u 0 0 = nI h ∧ v 0 0 = nI h) ∧ u 0 1 = v 0 1 ∧
  (∀ g, g < n1 → u 1 g = v 1 g ∧ u 2 g = v 2 g ∧ u 3 g = v 3 g ∧ u 4 g = v 4 g) ∧
  (∀ g, g < n1 → (0 ≤ v 1 g ∧ v 1 g ≤ 99) ∧ (0 ≤ v 2 g ∧ v 2 g ≤ 999) ∧ (0 ≤ v 3 g ∧ v 3 g ≤ 999) ∧ (v 4 g = -1 ∨ ∃ k : Nat, k < n0 ∧ v 4 g = nI k)) ∧
  (∀ g g', g < n1 → g' < n1 → v 4 g = v 4 g' → v 4 g ≠ -1 → g = g')
def jBook (n0 n1 : Nat) (bs : Nat) (SX : gS) (mst : Nat → Nat → Int32) (ma ms : Int32) (past sg si sn stt : Nat) (SM : gS) : Prop :=
  jSt n0 n1 (xSt (bs + 1) SX) mst ∧
  (∃ a : Nat, a ≤ 40 ∧ SX (bs + 6) 1 = nI a ∧ ma = nI a ∧ ∀ i, i < a → jSt n0 n1 (xAc (bs + 7) SX i) (mAc past SM i)) ∧
  (∃ q : Nat, q ≤ 8 ∧ SX (bs + 8) 3 = nI q ∧ ms = nI q ∧ ∀ i, i < q → (∃ g : Nat, g < n1 ∧ SX (bs + 9) i = nI g ∧ SM sg i = nI g) ∧ (∃ h : Nat, h ≤ 20 ∧ SX (bs + 10) i = nI h ∧ SM si i = nI h) ∧ (∃ x : Nat, x ≤ 99 ∧ SX (bs + 11) i = nI x ∧ SM sn i = nI x)) ∧
  (∀ i, i < 3 → SX (bs + 12) i = SM stt i)
/-! rules: codes of the class, signs of the reference -/
noncomputable def sgn (c : Int32) : Int32 :=
  if c ≤ 9999 then c else if c = 10010 then -28 else if c = 10011 then -27 else if c = 10012 then -26 else if c = 10013 then -24 else if c = 10014 then -25 else if c = 10015 then -20 else if c = 10016 then -21 else if c = 10017 then -22 else if c = 10018 then -23 else 9999 - c
noncomputable def rDep (c : Nat → Int32) : Nat → Nat
  | 0 => 0
  | i + 1 => if c i < 10010 then rDep c i + 1 else if c i = 10010 then rDep c i else rDep c i - 1
def rOK (c : Nat → Int32) (n : Nat) : Prop :=
  (∀ i, i < n → ((0 ≤ c i ∧ c i ≤ 10006) ∧ rDep c i < 31) ∨ (c i = 10010 ∧ 1 ≤ rDep c i) ∨ ((10011 ≤ c i ∧ c i ≤ 10018) ∧ 2 ≤ rDep c i)) ∧ (n = 0 ∨ 1 ≤ rDep c n)
def jRule (r sg : Nat) (told : Int32) (SX SM : gS) : Prop :=
  ∃ n : Nat, n ≤ 700 ∧ SX r 3 = nI n ∧ told = nI n ∧ (∀ i, i < n → SM sg i = sgn (SX (r + 1) i)) ∧ rOK (SX (r + 1)) n
def jTown (n0 n1 T : Nat) (SX SM : gS) : Prop :=
  (SX T 0 = nI n0 ∧ SM 5 0 = nI n0 ∧ n0 ≤ 8) ∧ (SX T 5 = nI n1 ∧ SM 5 1 = nI n1 ∧ n1 ≤ 6) ∧
  (∃ w : Nat, w ≤ 8 ∧ SX T 10 = nI w ∧ SM 5 3 = nI w ∧ ∀ i, i < w → ∃ x : Nat, x ≤ 9 ∧ SX (T + 9) i = nI x ∧ SM 14 i = nI x) ∧
  (∃ b : Nat, b ≤ 99 ∧ SX T 12 = nI b ∧ SM 5 2 = if b = 0 then 70 else nI b) ∧
  (∀ k, k < n0 → (∃ x : Nat, 1 ≤ x ∧ x ≤ 12 ∧ SX (T + 1) k = nI x ∧ SM 7 k = nI x) ∧ (∃ x : Nat, x ≤ 11 ∧ SX (T + 2) k = nI x ∧ SM 8 k = nI x) ∧ (∃ x : Nat, x ≤ 20 ∧ SX (T + 3) k = nI x ∧ SM 9 k = nI x) ∧ (∃ x : Nat, x ≤ 1 ∧ SX (T + 4) k = nI x ∧ SM 6 k = nI x)) ∧
  (∀ g, g < n1 → ∃ x : Nat, x ≤ 9 ∧ SX (T + 5) g = nI x ∧ SM 18 g = nI x) ∧
  jRule (T + 10) 15 (SM 5 4) SX SM ∧ jRule (T + 13) 16 (SM 5 5) SX SM
def jTape (SX SM : gS) : Prop :=
  ∃ n : Nat, n ≤ 700 ∧ SX 2 1 = nI n ∧ SM 99 20 = nI n ∧ ∀ i, i < n → ∃ x : Nat, x < 256 ∧ (SX 3 i &&& 255) = nI x ∧ SM 19 i = nI x
def jMisc (SX SM : gS) : Prop :=
  SX 1 3 = SM 99 29 ∧ SM 99 41 = -1 ∧ (SX 0 7 = SX 1 1 ∧ (SX 0 7 = 0 ∨ SX 0 7 = 1)) ∧ (SX 14 2 = 0 ∧ SX 17 2 = 1 ∧ SX 82 2 = 0 ∧ SX 85 2 = 1)
def jNow (n0 n1 : Nat) (SX SM : gS) : Prop := jBook n0 n1 20 SX (mSt SM) (SM 99 39) (SM 99 40) 36 48 49 50 17 SM
def jImg (n0 n1 : Nat) (SX SM : gS) : Prop := jBook n0 n1 33 SX (mAc 60 SM 0) (SM 99 58) (SM 99 59) 61 62 63 64 65 SM
def JJ (SX SM : gS) : Prop :=
  ∃ n0 n1 : Nat, jTown n0 n1 (xtw SX) SX SM ∧ jNow n0 n1 SX SM ∧ ((SX 0 8 = 0 ∧ SM 99 57 = 0) ∨ (SX 0 8 = 1 ∧ SM 99 57 = 1 ∧ jImg n0 n1 SX SM)) ∧ jTape SX SM ∧ jMisc SX SM
theorem xtw_cases {S : gS} : xtw S = 72 ∨ xtw S = 4 := by
  unfold xtw
  by_cases h : S 0 7 = 0
  · exact Or.inl (if_pos h)
  · exact Or.inr (if_neg h)
/-- a fresh object and a fresh reference -/
theorem JJ_0 : JJ xS0 mS0 := by
  refine ⟨0, 0, ?_, ?_, Or.inl ⟨rfl, rfl⟩, ?_, ?_⟩
  · have h : xtw xS0 = 72 := rfl
    rw [h]
    exact ⟨⟨rfl, rfl, by omega⟩, ⟨rfl, rfl, by omega⟩, ⟨0, by omega, rfl, rfl, fun i h => by omega⟩, ⟨0, by omega, rfl, rfl⟩, fun k h => by omega, fun g h => by omega, ⟨0, by omega, rfl, rfl, fun i h => by omega, fun i h => by omega, Or.inl rfl⟩, ⟨0, by omega, rfl, rfl, fun i h => by omega, fun i h => by omega, Or.inl rfl⟩⟩
  · exact ⟨⟨⟨0, by omega, rfl, rfl⟩, rfl, fun g h => by omega, fun g h => by omega, fun g g' h => by omega⟩, ⟨0, by omega, rfl, rfl, fun i h => by omega⟩, ⟨0, by omega, rfl, rfl, fun i h => by omega⟩, fun i h => by
      rcases (show i = 0 ∨ i = 1 ∨ i = 2 by omega) with rfl | rfl | rfl <;> rfl⟩
  · exact ⟨0, by omega, rfl, rfl, fun i h => by omega⟩
  · exact ⟨rfl, rfl, ⟨rfl, Or.inl rfl⟩, rfl, rfl, rfl, rfl⟩
/-! what a question may change: the scratch of both sides -/
noncomputable def xScr (i j : Nat) : Bool := i == 51 || (46 ≤ i && i ≤ 50) || (52 ≤ i && i ≤ 71) || i == 16 || i == 19 || i == 84 || i == 87 || (i == 0 && j == 9)
noncomputable def mScr (i j : Nat) : Bool := i == 42 || i == 43 || i == 46 || i == 47 || i == 51 || i == 52 || i == 53 || i == 55 || (i == 99 && (j == 4 || j == 44 || j == 45 || j == 54 || j == 56))
def xSame (S S' : gS) : Prop := ∀ i j, xScr i j = false → S' i j = S i j
def mSame (S S' : gS) : Prop := ∀ i j, mScr i j = false → S' i j = S i j
theorem xSame.rf {S : gS} : xSame S S := fun _ _ _ => rfl
theorem mSame.rf {S : gS} : mSame S S := fun _ _ _ => rfl
theorem xSame.tr {S S' S'' : gS} (h : xSame S S') (h' : xSame S' S'') : xSame S S'' := fun i j k => (h' i j k).trans (h i j k)
theorem mSame.tr {S S' S'' : gS} (h : mSame S S') (h' : mSame S' S'') : mSame S S'' := fun i j k => (h' i j k).trans (h i j k)
theorem xSame.up {S S' : gS} {a b : Nat} {x : Int32} (h : xSame S S') (hs : xScr a b = true) : xSame S (sU S' a b x) := by
  intro i j k
  rw [sU_ap]
  by_cases h2 : i = a ∧ j = b
  · rw [h2.1, h2.2, hs] at k
    cases k
  · rw [if_neg h2]
    exact h i j k
theorem mSame.up {S S' : gS} {a b : Nat} {x : Int32} (h : mSame S S') (hs : mScr a b = true) : mSame S (sU S' a b x) := by
  intro i j k
  rw [sU_ap]
  by_cases h2 : i = a ∧ j = b
  · rw [h2.1, h2.2, hs] at k
    cases k
  · rw [if_neg h2]
    exact h i j k
theorem jRule.on {r sg : Nat} {told told' : Int32} {SX SM SX' SM' : gS} (h : jRule r sg told SX SM) (e1 : SX' r 3 = SX r 3) (e2 : SX' (r + 1) = SX (r + 1)) (e3 : told' = told) (e4 : SM' sg = SM sg) : jRule r sg told' SX' SM' := by
  obtain ⟨n, h1, h2, h3, h4, h5⟩ := h
  refine ⟨n, h1, by rw [e1]; exact h2, by rw [e3]; exact h3, fun i hi => ?_, by rw [e2]; exact h5⟩
  rw [e2, e4]
  exact h4 i hi
theorem jTown.on {n0 n1 T : Nat} {SX SM SX' SM' : gS} (h : jTown n0 n1 T SX SM) (hT : T = 72 ∨ T = 4) (x : xSame SX SX') (m : mSame SM SM') : jTown n0 n1 T SX' SM' := by
  obtain ⟨⟨a1, a2, a3⟩, ⟨b1, b2, b3⟩, ⟨w, w1, w2, w3, w4⟩, ⟨b, c1, c2, c3⟩, d, g, r1, r2⟩ := h
  have m5 : ∀ j, SM' 5 j = SM 5 j := fun j => m 5 j rfl
  have hx : ∀ i j, i ≤ 14 → i ≠ 12 → SX' (T + i) j = SX (T + i) j := by
    intro i j h1 h2
    refine x _ _ ?_
    rcases hT with rfl | rfl
    · rcases (show i = 0 ∨ i = 1 ∨ i = 2 ∨ i = 3 ∨ i = 4 ∨ i = 5 ∨ i = 6 ∨ i = 7 ∨ i = 8 ∨ i = 9 ∨ i = 10 ∨ i = 11 ∨ i = 13 ∨ i = 14 by omega) with rfl | rfl | rfl | rfl | rfl | rfl | rfl | rfl | rfl | rfl | rfl | rfl | rfl | rfl <;> rfl
    · rcases (show i = 0 ∨ i = 1 ∨ i = 2 ∨ i = 3 ∨ i = 4 ∨ i = 5 ∨ i = 6 ∨ i = 7 ∨ i = 8 ∨ i = 9 ∨ i = 10 ∨ i = 11 ∨ i = 13 ∨ i = 14 by omega) with rfl | rfl | rfl | rfl | rfl | rfl | rfl | rfl | rfl | rfl | rfl | rfl | rfl | rfl <;> rfl
  have hx0 : ∀ j, SX' T j = SX T j := fun j => hx 0 j (by omega) (by omega)
  refine ⟨⟨by rw [hx0]; exact a1, by rw [m5]; exact a2, a3⟩, ⟨by rw [hx0]; exact b1, by rw [m5]; exact b2, b3⟩, ⟨w, w1, by rw [hx0]; exact w2, by rw [m5]; exact w3, fun i hi => ?_⟩, ⟨b, c1, by rw [hx0]; exact c2, by rw [m5]; exact c3⟩, fun k hk => ?_, fun q hq => ?_, ?_, ?_⟩
  · rw [hx 9 i (by omega) (by omega), m 14 i rfl]
    exact w4 i hi
  · rw [hx 1 k (by omega) (by omega), hx 2 k (by omega) (by omega), hx 3 k (by omega) (by omega), hx 4 k (by omega) (by omega), m 7 k rfl, m 8 k rfl, m 9 k rfl, m 6 k rfl]
    exact d k hk
  · rw [hx 5 q (by omega) (by omega), m 18 q rfl]
    exact g q hq
  · exact r1.on (hx 10 3 (by omega) (by omega)) (funext fun j => hx 11 j (by omega) (by omega)) (m5 4) (funext fun j => m 15 j rfl)
  · exact r2.on (hx 13 3 (by omega) (by omega)) (funext fun j => hx 14 j (by omega) (by omega)) (m5 5) (funext fun j => m 16 j rfl)
theorem jSt.on {n0 n1 : Nat} {u v u' v' : Nat → Nat → Int32} (h : jSt n0 n1 u v) (hu : ∀ c g, (c = 0 → g ≤ 1) → c ≤ 4 → u' c g = u c g) (hv : ∀ c g, (c = 0 → g ≤ 1) → c ≤ 4 → v' c g = v c g) : jSt n0 n1 u' v' := by
  obtain ⟨s1, s2, s3, s4, s5⟩ := h
  have u9 : ∀ c g, 1 ≤ c → c ≤ 4 → u' c g = u c g := fun c g h1 h2 => hu c g (fun h => by omega) h2
  have v9 : ∀ c g, 1 ≤ c → c ≤ 4 → v' c g = v c g := fun c g h1 h2 => hv c g (fun h => by omega) h2
  refine ⟨?_, ?_, fun g hg => ?_, fun g hg => ?_, fun g g' h1 h2 => ?_⟩
  · rw [hu 0 0 (fun _ => by omega) (by omega), hv 0 0 (fun _ => by omega) (by omega)]
    exact s1
  · rw [hu 0 1 (fun _ => by omega) (by omega), hv 0 1 (fun _ => by omega) (by omega)]
    exact s2
  · rw [u9 1 g (by omega) (by omega), u9 2 g (by omega) (by omega), u9 3 g (by omega) (by omega), u9 4 g (by omega) (by omega), v9 1 g (by omega) (by omega), v9 2 g (by omega) (by omega), v9 3 g (by omega) (by omega), v9 4 g (by omega) (by omega)]
    exact s3 g hg
  · rw [v9 1 g (by omega) (by omega), v9 2 g (by omega) (by omega), v9 3 g (by omega) (by omega), v9 4 g (by omega) (by omega)]
    exact s4 g hg
  · rw [v9 4 g (by omega) (by omega), v9 4 g' (by omega) (by omega)]
    exact s5 g g' h1 h2
theorem jBook.on {n0 n1 bs past sg si sn stt : Nat} {mst mst' : Nat → Nat → Int32} {ma ms ma' ms' : Int32} {SX SM SX' SM' : gS} (h : jBook n0 n1 bs SX mst ma ms past sg si sn stt SM) (x : ∀ i, 1 ≤ i → i ≤ 12 → SX' (bs + i) = SX (bs + i)) (e1 : ∀ c g, (c = 0 → g ≤ 1) → c ≤ 4 → mst' c g = mst c g) (e2 : ma' = ma) (e3 : ms' = ms) (e4 : SM' past = SM past) (e5 : SM' sg = SM sg) (e6 : SM' si = SM si) (e7 : SM' sn = SM sn) (e8 : SM' stt = SM stt) : jBook n0 n1 bs SX' mst' ma' ms' past sg si sn stt SM' := by
  obtain ⟨s, ⟨a, a1, a2, a3, a4⟩, ⟨q, q1, q2, q3, q4⟩, t⟩ := h
  subst e2 e3
  refine ⟨s.on (fun c g _ hc => ?_) e1, ⟨a, a1, by rw [x 6 (by omega) (by omega)]; exact a2, a3, fun i hi => ?_⟩, ⟨q, q1, by rw [x 8 (by omega) (by omega)]; exact q2, q3, fun i hi => ?_⟩, fun i hi => ?_⟩
  · show SX' (bs + 1 + c) g = SX (bs + 1 + c) g
    rw [show bs + 1 + c = bs + (1 + c) by omega, x (1 + c) (by omega) (by omega)]
  · have e9 : xAc (bs + 7) SX' i = xAc (bs + 7) SX i := by
      funext c g
      unfold xAc
      rw [x 7 (by omega) (by omega)]
    have e0 : mAc past SM' i = mAc past SM i := by
      funext c g
      unfold mAc
      rw [e4]
    rw [e9, e0]
    exact a4 i hi
  · rw [x 9 (by omega) (by omega), x 10 (by omega) (by omega), x 11 (by omega) (by omega), e5, e6, e7]
    exact q4 i hi
  · rw [x 12 (by omega) (by omega), e8]
    exact t i hi
theorem mSt_on {S S' : gS} (m : mSame S S') : ∀ c g, (c = 0 → g ≤ 1) → c ≤ 4 → mSt S' c g = mSt S c g := by
  intro c g h1 h2
  unfold mSt
  rcases (show c = 0 ∨ c = 1 ∨ c = 2 ∨ c = 3 ∨ c = 4 by omega) with rfl | rfl | rfl | rfl | rfl
  · rcases (show g = 0 ∨ g = 1 by have := h1 rfl; omega) with rfl | rfl
    · exact m 99 37 rfl
    · exact m 99 38 rfl
  · exact m 32 g rfl
  · exact m 33 g rfl
  · exact m 34 g rfl
  · exact m 35 g rfl
theorem mAc_on {b a : Nat} {S S' : gS} (h : S' b = S b) : ∀ c g, (c = 0 → g ≤ 1) → c ≤ 4 → mAc b S' a c g = mAc b S a c g := by
  intro c g _ _
  unfold mAc
  rw [h]
theorem JJ.same {SX SM SX' SM' : gS} (h : JJ SX SM) (x : xSame SX SX') (m : mSame SM SM') : JJ SX' SM' := by
  obtain ⟨n0, n1, h1, h2, h3, h4, h5⟩ := h
  have ht : xtw SX' = xtw SX := by
    unfold xtw
    rw [x 0 7 rfl]
  have fx : ∀ i, (∀ j, xScr i j = false) → SX' i = SX i := fun i hi => funext fun j => x i j (hi j)
  have fm : ∀ i, (∀ j, mScr i j = false) → SM' i = SM i := fun i hi => funext fun j => m i j (hi j)
  have b1 : ∀ i, 1 ≤ i → i ≤ 12 → SX' (20 + i) = SX (20 + i) := fun i h1 h2 => by
    rcases (show i = 1 ∨ i = 2 ∨ i = 3 ∨ i = 4 ∨ i = 5 ∨ i = 6 ∨ i = 7 ∨ i = 8 ∨ i = 9 ∨ i = 10 ∨ i = 11 ∨ i = 12 by omega) with rfl | rfl | rfl | rfl | rfl | rfl | rfl | rfl | rfl | rfl | rfl | rfl <;> exact fx _ (fun _ => rfl)
  have b2 : ∀ i, 1 ≤ i → i ≤ 12 → SX' (33 + i) = SX (33 + i) := fun i h1 h2 => by
    rcases (show i = 1 ∨ i = 2 ∨ i = 3 ∨ i = 4 ∨ i = 5 ∨ i = 6 ∨ i = 7 ∨ i = 8 ∨ i = 9 ∨ i = 10 ∨ i = 11 ∨ i = 12 by omega) with rfl | rfl | rfl | rfl | rfl | rfl | rfl | rfl | rfl | rfl | rfl | rfl <;> exact fx _ (fun _ => rfl)
  refine ⟨n0, n1, ?_, ?_, ?_, ?_, ?_⟩
  · rw [ht]
    exact h1.on xtw_cases x m
  · exact jBook.on h2 b1 (mSt_on m) (m 99 39 rfl) (m 99 40 rfl) (fm _ (fun _ => rfl)) (fm _ (fun _ => rfl)) (fm _ (fun _ => rfl)) (fm _ (fun _ => rfl)) (fm _ (fun _ => rfl))
  · rw [x 0 8 rfl, m 99 57 rfl]
    rcases h3 with h3 | ⟨h3, h4, h5⟩
    · exact Or.inl h3
    · exact Or.inr ⟨h3, h4, jBook.on h5 b2 (mAc_on (fm 60 (fun _ => rfl))) (m 99 58 rfl) (m 99 59 rfl) (fm _ (fun _ => rfl)) (fm _ (fun _ => rfl)) (fm _ (fun _ => rfl)) (fm _ (fun _ => rfl)) (fm _ (fun _ => rfl))⟩
  · obtain ⟨n, k1, k2, k3, k4⟩ := h4
    refine ⟨n, k1, by rw [x 2 1 rfl]; exact k2, by rw [m 99 20 rfl]; exact k3, fun i hi => ?_⟩
    rw [x 3 i rfl, m 19 i rfl]
    exact k4 i hi
  · unfold jMisc at h5 ⊢
    rw [x 1 3 rfl, m 99 29 rfl, m 99 41 rfl, x 0 7 rfl, x 1 1 rfl, x 14 2 rfl, x 17 2 rfl, x 82 2 rfl, x 85 2 rfl]
    exact h5
