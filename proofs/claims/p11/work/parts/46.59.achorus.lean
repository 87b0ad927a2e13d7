/-! how many bits; chorus -/
noncomputable def bcV (x : Int32) : Int32 := match fJ6_bitCount_0f7a4 0 x (fun _ _ => 0) with
  | some o => o.1
  | none => 0
theorem x_bitCount {N : Nat} {x : Int32} {S : gS} : fJ6_bitCount_0f7a4 N x S = some (bcV x, S) := rfl
noncomputable def boP : Nat → Int32 → Int32 → Int32
  | 0, a, _ => a
  | n + 1, a, v => if v = 0 then a else boP n (a + 1) (v &&& (v - 1))
noncomputable def boE : Nat → Int32 → Bool
  | 0, v => decide (v = 0)
  | n + 1, v => decide (v = 0) || boE n (v &&& (v - 1))
theorem m_bitsOf_h {N : Nat} {S : gS} : ∀ (n : Nat) (a v : Int32) (fuel : Nat), boE n v = true → n < fuel → fX12_bitsOf_h4 N fuel a v S = some (boP (n + 1) a v, S) := by
  intro n
  induction n with
  | zero =>
    intro a v fuel h1 h2
    obtain ⟨f, rfl⟩ : ∃ f, fuel = f + 1 := ⟨fuel - 1, by omega⟩
    have h0 : v = 0 := of_decide_eq_true h1
    show fX12_bitsOf_b4 N _ a v S = some ((if v = 0 then a else boP 0 (a + 1) (v &&& (v - 1))), S)
    unfold fX12_bitsOf_b4
    rw [if_pos h0, if_pos h0]
    rfl
  | succ n ih =>
    intro a v fuel h1 h2
    obtain ⟨f, rfl⟩ : ∃ f, fuel = f + 1 := ⟨fuel - 1, by omega⟩
    show fX12_bitsOf_b4 N (fX12_bitsOf_h4 N f) a v S = some ((if v = 0 then a else boP (n + 1) (a + 1) (v &&& (v - 1))), S)
    unfold fX12_bitsOf_b4
    by_cases h0 : v = 0
    · rw [if_pos h0, if_pos h0]
      rfl
    · rw [if_neg h0, if_neg h0]
      have h3 : boE n (v &&& (v - 1)) = true := by
        have h1 : (decide (v = 0) || boE n (v &&& (v - 1))) = true := h1
        rw [decide_eq_false h0, Bool.false_or] at h1
        exact h1
      exact ih (a + 1) (v &&& (v - 1)) f h3 (by omega)
theorem bo_all : ∀ x, x < 256 → boE 8 (nI x) = true ∧ boP 9 0 (nI x) = bcV (nI x) := by decide +kernel
theorem m_bitsOf {N x : Nat} {S : gS} (hx : x < 256) (hN : 8 < N) : fX12_bitsOf N (nI x) S = some (bcV (nI x), S) := by
  obtain ⟨h1, h2⟩ := bo_all x hx
  rw [← h2]
  exact m_bitsOf_h 8 0 (nI x) N h1 hN
noncomputable def dN (c : Nat → Bool) : Nat → Nat
  | 0 => 0
  | n + 1 => dN c n + if c n = true then 2 ^ n else 0
noncomputable def bf (b0 b1 b2 b3 b4 b5 b6 b7 : Bool) (i : Nat) : Bool := match i with
  | 0 => b0
  | 1 => b1
  | 2 => b2
  | 3 => b3
  | 4 => b4
  | 5 => b5
  | 6 => b6
  | 7 => b7
  | _ => false
theorem bits_all : ∀ n, n < 9 → ∀ b0 b1 b2 b3 b4 b5 b6 b7 : Bool, drB (bf b0 b1 b2 b3 b4 b5 b6 b7) n 0 0 = nI (dN (bf b0 b1 b2 b3 b4 b5 b6 b7) n) ∧ dN (bf b0 b1 b2 b3 b4 b5 b6 b7) n < 2 ^ n ∧ bcV (nI (dN (bf b0 b1 b2 b3 b4 b5 b6 b7) n)) = nI (cntB (bf b0 b1 b2 b3 b4 b5 b6 b7) n) := by decide +kernel
theorem dN_eq {c c' : Nat → Bool} : ∀ n, (∀ i, i < n → c i = c' i) → dN c n = dN c' n := by
  intro n
  induction n with
  | zero => intro _; rfl
  | succ n ih =>
    intro h
    show dN c n + (if c n = true then 2 ^ n else 0) = dN c' n + (if c' n = true then 2 ^ n else 0)
    rw [ih (fun i hi => h i (by omega)), h n (by omega)]
theorem cntB_eq {c c' : Nat → Bool} : ∀ n, (∀ i, i < n → c i = c' i) → cntB c n = cntB c' n := by
  intro n
  induction n with
  | zero => intro _; rfl
  | succ n ih =>
    intro h
    show cntB c n + (if c n = true then 1 else 0) = cntB c' n + (if c' n = true then 1 else 0)
    rw [ih (fun i hi => h i (by omega)), h n (by omega)]
theorem bits_of {c : Nat → Bool} {n : Nat} (hn : n ≤ 8) : drB c n 0 0 = nI (dN c n) ∧ dN c n < 2 ^ n ∧ bcV (nI (dN c n)) = nI (cntB c n) := by
  have e : ∀ i, i < n → c i = bf (c 0) (c 1) (c 2) (c 3) (c 4) (c 5) (c 6) (c 7) i := by
    intro i hi
    rcases (show i = 0 ∨ i = 1 ∨ i = 2 ∨ i = 3 ∨ i = 4 ∨ i = 5 ∨ i = 6 ∨ i = 7 by omega) with rfl | rfl | rfl | rfl | rfl | rfl | rfl | rfl <;> rfl
  rw [drB_eq n 0 0 (fun i _ hi => e i (by omega)), dN_eq n e, cntB_eq n e]
  exact bits_all n (by omega) _ _ _ _ _ _ _ _
theorem pow256 {n : Nat} (hn : n ≤ 8) : 2 ^ n ≤ 256 := by
  rcases (show n = 0 ∨ n = 1 ∨ n = 2 ∨ n = 3 ∨ n = 4 ∨ n = 5 ∨ n = 6 ∨ n = 7 ∨ n = 8 by omega) with rfl | rfl | rfl | rfl | rfl | rfl | rfl | rfl | rfl <;> decide
theorem m_bitsD {N n : Nat} {c : Nat → Bool} {S : gS} (hn : n ≤ 8) (hN : 8 < N) : fX12_bitsOf N (drB c n 0 0) S = some (nI (cntB c n), S) := by
  obtain ⟨h1, h2, h3⟩ := bits_of (c := c) hn
  have := pow256 hn
  rw [h1, m_bitsOf (by omega) hN, h3]
theorem x_bitsD {N n : Nat} {c : Nat → Bool} {S : gS} (hn : n ≤ 8) : fJ6_bitCount_0f7a4 N (drB c n 0 0) S = some (nI (cntB c n), S) := by
  obtain ⟨h1, h2, h3⟩ := bits_of (c := c) hn
  rw [x_bitCount, h1, h3]
noncomputable def chR (v : Nat → Int32) : Nat → Int32 × Int32
  | 0 => (-1, -1)
  | k + 1 => if v k ≤ (chR v k).2 then chR v k else (nI (k + 1), v k)
noncomputable def bC (n0 w : Nat) (SX : gS) (h : Nat) : Int32 := nI (cntB (fun k => drS (SX (xtw SX + 2) k) (SX (xtw SX + 1) k) (nI h) (wetS w (SX (xtw SX + 9)) h) (bt (SX 21 1) (nI k))) n0)
theorem st_chorus : Lw_chorus JJ := by
  intro SX SM x1 hJ
  have hJ1 := hJ.same xSame.rf (code_same SM 0)
  have c0 := code_at SM 0
  obtain ⟨S1, hS1⟩ : ∃ z, z = sU SM 99 4 0 := ⟨_, rfl⟩
  rw [← hS1] at hJ1 c0
  obtain ⟨n0, n1, w, h, hT, hN, D⟩ := hJ1.dr
  have h8 := D.1.2.2
  have h9 := D.2.2.2.2.2.1.1
  have hF : fX12_chorus 1000 x1 SM = if iv (wth x1 1 60) = 0 then fX12_chorus_b17 1000 S1 else fX12_chorus_b23 1000 x1 S1 := by
    unfold fX12_chorus fX12_chorus_b0
    dsimp only [lt]
    rw [← hS1, bnd_t in_1_60]
  cases hx : wth x1 1 60 with
  | false =>
    refine stFl 1000 1000 2 hJ two_ne (Or.inr rfl) (niF hx) ?_
    show fX12_chorus 1000 x1 SM = _
    rw [hF, hx, ← hS1]
    rfl
  | true =>
  obtain ⟨c, c1, c2, rfl⟩ := wth_of (a := 1) (b := 60) (by decide) (by decide) hx
  obtain ⟨S2, p1, D2, E⟩ := q_begin D c0
  obtain ⟨v, hv⟩ : ∃ z : Nat → Int32, z = fun k => bC n0 w SX (h + k) := ⟨_, rfl⟩
  refine stSu 1000 1000 (chR v c).1 hJ rfl (Or.inl rfl) ?_ ?_
  · have e : fX11_chorus 1000 (nI c) SX = fX11_chorus_h14 1000 1000 (nI c) (-1) (-1) 1 SX := niT hx
    show Gv (fX11_chorus 1000 (nI c) SX) _
    rw [e]
    refine loopG (A := Unit) (fun f k _ => fX11_chorus_h14 1000 f (nI c) (chR v k).1 (chR v k).2 (nI (k + 1)) SX) (fun _ _ => True) _ c ?_ ?_ c 0 () 1000 (by omega) trivial (by omega)
    · rintro f a -
      refine ⟨(0, (chR v c).1, SX), ?_, rfl, rfl, xSame.rf⟩
      show fX11_chorus_b14 1000 _ (nI c) _ _ (nI (c + 1)) SX = _
      unfold fX11_chorus_b14
      rw [if_pos (nI_lt (by omega) (by omega))]
      rfl
    · rintro f k a hk -
      refine Or.inr ⟨(), trivial, ?_⟩
      show fX11_chorus_b14 1000 (fX11_chorus_h14 1000 f) (nI c) _ _ (nI (k + 1)) SX = fX11_chorus_h14 1000 f (nI c) (if v k ≤ (chR v k).2 then chR v k else (nI (k + 1), v k)).1 (if v k ≤ (chR v k).2 then chR v k else (nI (k + 1), v k)).2 (nI (k + 1 + 1)) SX
      unfold fX11_chorus_b14
      rw [if_neg (nI_nlt (by omega) (by omega))]
      unfold fX11_chorus_b20
      rw [bnd_t (x_dripBits D (by omega) (by omega) (by decide))]
      dsimp only
      rw [show h + (k + 1) - 1 = h + k by omega, bnd_t (show fJ6_bitCount_0f7a4 1000 (bX n0 w SX (h + k)) SX = some (v k, SX) by rw [hv]; exact x_bitsD h8)]
      show (if v k ≤ (chR v k).2 then _ else _) = _
      by_cases h1 : v k ≤ (chR v k).2
      · rw [if_pos h1, if_pos h1]
        unfold fX11_chorus_b43
        rw [nI_1]
      · rw [if_neg h1, if_neg h1]
        unfold fX11_chorus_b37 fX11_chorus_b43
        rw [nI_1]
  · have e : fX12_chorus 1000 (nI c) SM = fX12_chorus_h39 1000 1000 (nI c) (-1) (-1) 1 S2 := by
      rw [hF, hx]
      show fX12_chorus_b23 1000 (nI c) S1 = _
      unfold fX12_chorus_b23
      rw [bnd_t p1]
    show Gv (fX12_chorus 1000 (nI c) SM) _
    rw [e, ← hS1]
    refine loopG (A := gS) (fun f k S => fX12_chorus_h39 1000 f (nI c) (chR v k).1 (chR v k).2 (nI (k + 1)) S) (fun k S => oSame mHr S2 S ∧ S 99 37 = nI (h + k)) _ c ?_ ?_ c 0 S2 1000 (by omega) ⟨oSame.rf, D2.2.2.2.2.2.1.2.2⟩ (by omega)
    · rintro f S ⟨i1, i2⟩
      obtain ⟨S4, u1, u2, u3⟩ := E S i1
      refine ⟨((chR v c).1, S4), ?_, rfl, u2, u3⟩
      show fX12_chorus_b39 1000 _ (nI c) _ _ (nI (c + 1)) S = _
      unfold fX12_chorus_b39
      rw [if_pos (nI_lt (by omega) (by omega))]
      unfold fX12_chorus_b86
      rw [bnd_t u1]
    · rintro f k S hk ⟨i1, i2⟩
      refine Or.inr ⟨sU S 99 37 (nI (h + (k + 1))), ⟨i1.up rfl, sU_s⟩, ?_⟩
      show fX12_chorus_b39 1000 (fX12_chorus_h39 1000 f) (nI c) _ _ (nI (k + 1)) S = fX12_chorus_h39 1000 f (nI c) (if v k ≤ (chR v k).2 then chR v k else (nI (k + 1), v k)).1 (if v k ≤ (chR v k).2 then chR v k else (nI (k + 1), v k)).2 (nI (k + 1 + 1)) (sU S 99 37 (nI (h + (k + 1))))
      unfold fX12_chorus_b39
      rw [if_neg (nI_nlt (by omega) (by omega))]
      unfold fX12_chorus_b45
      rw [bnd_t (m_dripAt D2 i1 i2 (by omega) (by decide))]
      dsimp only
      rw [bnd_t (show fX12_bitsOf 1000 (bX n0 w SX (h + k)) S = some (v k, S) by rw [hv]; exact m_bitsD h8 (by decide))]
      show (if v k ≤ (chR v k).2 then fX12_chorus_b63 1000 (fX12_chorus_h39 1000 f) (nI c) (chR v k).1 (chR v k).2 (nI (k + 1)) (v k) S else fX12_chorus_b60 1000 (fX12_chorus_h39 1000 f) (nI c) (chR v k).2 (nI (k + 1)) (v k) S) = _
      by_cases h1 : v k ≤ (chR v k).2
      · rw [if_pos h1, if_pos h1]
        unfold fX12_chorus_b63
        dsimp only [lt]
        rw [if_neg (Int32.not_lt.mpr h1), i2, nI_1, nI_1]
        rfl
      · rw [if_neg h1, if_neg h1]
        unfold fX12_chorus_b60 fX12_chorus_b63
        dsimp only [lt]
        rw [if_pos (Int32.not_le.mp h1), i2, nI_1, nI_1]
        rfl
/-! see -/
theorem st_see : Lw_see JJ := by
  intro SX SM x1 x2 x3 hJ
  obtain ⟨S1, Z, h, qs, hS1, c0, hJ1, Zk, h9, C, M, K, w41, x0, x5⟩ := pre hJ
  have z6 := Zk.2.1.2
  have hF : fX12_see 5000 x1 x2 x3 SM = if iv (inb x1 (tn1 Z)) = 0 then fX12_see_b13 5000 S1 else fX12_see_b19 5000 x1 x2 x3 S1 := by
    unfold fX12_see fX12_see_b0
    dsimp only [lt]
    rw [← hS1, bnd_t (m_isGuild M.1.2.1 (by omega))]
  cases h1 : inb x1 (tn1 Z) with
  | false =>
    refine stFl 5000 5000 1 hJ one_ne (Or.inr rfl) (ngF x5 (by omega) h1) ?_
    show fX12_see 5000 x1 x2 x3 SM = _
    rw [hF, h1, ← hS1]
    rfl
  | true =>
  obtain ⟨g, hg, rfl⟩ := inb_of h1 (by omega)
  obtain ⟨n0, n1, hT, hN, hI, hP, hM⟩ := id hJ1
  obtain ⟨s, A, ⟨q, g1, g2, g3, g4⟩, t⟩ := hN
  have g2 : SX 28 3 = nI q := g2
  have hX : fX11_see 5000 (nI g) x2 x3 SX = if iv (wth x2 0 20) = 0 then fX11_see_b38 5000 (nI g) x2 x3 SX else if iv (wth x3 0 99) = 0 then fX11_see_b38 5000 (nI g) x2 x3 SX else fX11_see_b34 5000 (nI g) x2 x3 SX := by
    refine (ngT x5 (by omega) h1).trans ?_
    dsimp only
    rw [bnd_t x_isWithin]
    unfold fX11_see_b24
    rw [bnd_t x_isWithin]
  have hMM : fX12_see 5000 (nI g) x2 x3 SM = if nI q = 8 then fX12_see_b52 5000 S1 else if iv (wth x2 0 20) = 0 then fX12_see_b52 5000 S1 else if iv (wth x3 0 99) = 0 then fX12_see_b52 5000 S1 else fX12_see_b58 5000 (nI g) x2 x3 S1 := by
    rw [hF, h1]
    show fX12_see_b19 5000 (nI g) x2 x3 S1 = _
    unfold fX12_see_b19
    rw [g3]
    unfold fX12_see_b28
    rw [bnd_t in_0_20]
    unfold fX12_see_b40
    rw [bnd_t in_0_99]
  have ref : fX11_see 5000 (nI g) x2 x3 SX = fX11_see_b56 5000 SX → fX12_see 5000 (nI g) x2 x3 SM = fX12_see_b52 5000 S1 → StpT JJ lcA okA (fun N => fX11_see N (nI g) x2 x3 SX) (fun M => fX12_see M (nI g) x2 x3 SM) := by
    intro a b
    refine stp_ok (SX := SX) (SM := SM) (v := -1) 5000 5000 (hJ1.refuse (k := 2) (by decide)) rfl (Or.inl rfl) ?_ ?_ ?_
    · show fX11_see 5000 (nI g) x2 x3 SX = _
      rw [a]
      unfold fX11_see_b56
      rw [bnd_t (show fX1_refuse 5000 20 2 SX = _ from x_refuse (k := 2) (by decide))]
    · show fX12_see 5000 (nI g) x2 x3 SM = _
      rw [b]
      unfold fX12_see_b52
      rw [bnd_t (show fX12_refuse 5000 2 S1 = _ from m_refuse (k := 2) (by decide))]
    · rw [sU_n (by omega)]; exact c0
  cases h2 : wth x2 0 20 with
  | false =>
    refine ref ?_ ?_
    · rw [hX, h2]; rfl
    · rw [hMM, h2]
      by_cases h8 : nI q = 8
      · rw [if_pos h8]
      · rw [if_neg h8]; rfl
  | true =>
  cases h3 : wth x3 0 99 with
  | false =>
    refine ref ?_ ?_
    · rw [hX, h2, h3]; rfl
    · rw [hMM, h2, h3]
      by_cases h8 : nI q = 8
      · rw [if_pos h8]
      · rw [if_neg h8]; rfl
  | true =>
  have hX2 : fX11_see 5000 (nI g) x2 x3 SX = if nI q < 8 then fX11_see_b65 5000 (nI g) x2 x3 SX else fX11_see_b56 5000 SX := by
    rw [hX, h2, h3]
    show fX11_see_b46 5000 (nI g) x2 x3 SX = _
    unfold fX11_see_b46
    rw [g2]
  by_cases h8 : q = 8
  · subst h8
    refine ref ?_ ?_
    · rw [hX2, if_neg (by decide)]
    · rw [hMM, if_pos (show nI 8 = 8 from rfl)]
  · have hq8 : q < 8 := by omega
    obtain ⟨y, -, y2, rfl⟩ := wth_of (a := 0) (b := 20) (by decide) (by decide) h2
    obtain ⟨u, -, u2, rfl⟩ := wth_of (a := 0) (b := 99) (by decide) (by decide) h3
    have hqc : (nI q).toNatClampNeg = q := nI_clamp (by omega)
    have hin : inb (nI q) 8 = true := inb_t hq8 (by decide)
    obtain ⟨X3, e3⟩ : ∃ z, z = sU (sU (sU (sU SX 29 q (nI g)) 30 q (nI y)) 31 q (nI u)) 28 3 (nI (q + 1)) := ⟨_, rfl⟩
    obtain ⟨M3, f3⟩ : ∃ z, z = sU (sU (sU (sU S1 48 q (nI g)) 49 q (nI y)) 50 q (nI u)) 99 40 (nI (q + 1)) := ⟨_, rfl⟩
    have xs : ∀ i j, ¬ (i = 28 ∧ j = 3) → ¬ (29 ≤ i ∧ i ≤ 31 ∧ j = q) → X3 i j = SX i j := fun i j a b => by rw [e3, sU_n (by omega), sU_n (by omega), sU_n (by omega), sU_n (by omega)]
    have ms : ∀ i j, ¬ (i = 99 ∧ j = 40) → ¬ (48 ≤ i ∧ i ≤ 50 ∧ j = q) → M3 i j = S1 i j := fun i j a b => by rw [f3, sU_n (by omega), sU_n (by omega), sU_n (by omega), sU_n (by omega)]
    have x28 : X3 28 3 = nI (q + 1) := by rw [e3, sU_s]
    have m40 : M3 99 40 = nI (q + 1) := by rw [f3, sU_s]
    refine stp_ok (SX := SX) (SM := SM) (SX' := X3) (SM' := M3) (v := nI (q + 1)) 5000 5000 ?_ rfl (Or.inl rfl) ?_ ?_ ?_
    · refine hJ1.act (fun i j hij => xs i j (fun q => by rw [xAct_t (by omega)] at hij; cases hij) (fun q => by rw [xAct_t (by omega)] at hij; cases hij)) (fun i j hij => ms i j (fun q => by rw [mAct_t (by omega)] at hij; cases hij) (fun q => by rw [mAct_t (by omega)] at hij; cases hij)) (fun n0 n1 hT hN hI => ⟨?_, hI.on (xs _ _ (by omega) (by omega)) (fun i j h1 h2 => xs _ _ (by omega) (by omega)) (fun i j h1 h2 => ms _ _ (by omega) (by omega)) (ms _ _ (by omega) (by omega)) (ms _ _ (by omega) (by omega)) (ms _ _ (by omega) (by omega))⟩)
      have e1 : n1 = tn1 Z := by
        obtain ⟨-, ⟨b1, -, b3⟩, -⟩ := hT
        exact (nI_eq (by omega) (by omega)).mp (b1.symm.trans x5)
      obtain ⟨s, ⟨a, f1, f2, f3', f4⟩, ⟨q', k1, k2, k3, k4⟩, t⟩ := hN
      have eq : q' = q := (nI_eq (by omega) (by omega)).mp (k2.symm.trans g2)
      subst eq
      refine ⟨s.on (fun c g _ hc => xs _ _ (by omega) (by omega)) (fun c g h1 hc => ?_), ⟨a, f1, ?_, ?_, fun i hi => (f4 i hi).on (fun c g _ _ => ?_) (fun c g _ _ => ?_)⟩, ⟨q' + 1, by omega, x28, m40, fun i hi => ?_⟩, fun i hi => ?_⟩
      · unfold mSt
        by_cases h0 : c = 0
        · rw [if_pos h0, if_pos h0, ms _ _ (by have := h1 h0; omega) (by omega)]
        · rw [if_neg h0, if_neg h0, ms _ _ (by omega) (by omega)]
      · rw [xs (20 + 6) 1 (by omega) (by omega)]; exact f2
      · rw [ms 99 39 (by omega) (by omega)]; exact f3'
      · unfold xAc
        rw [show X3 (20 + 7) = SX (20 + 7) from funext fun j => xs _ j (by omega) (by omega)]
      · unfold mAc
        rw [show M3 36 = S1 36 from funext fun j => ms _ j (by omega) (by omega)]
      · by_cases hi2 : i = q'
        · subst hi2
          refine ⟨⟨g, by omega, ?_, ?_⟩, ⟨y, y2, ?_, ?_⟩, ⟨u, u2, ?_, ?_⟩⟩
          · show X3 29 i = _
            rw [e3, sU_n (by omega), sU_n (by omega), sU_n (by omega), sU_s]
          · rw [f3, sU_n (by omega), sU_n (by omega), sU_n (by omega), sU_s]
          · show X3 30 i = _
            rw [e3, sU_n (by omega), sU_n (by omega), sU_s]
          · rw [f3, sU_n (by omega), sU_n (by omega), sU_s]
          · show X3 31 i = _
            rw [e3, sU_n (by omega), sU_s]
          · rw [f3, sU_n (by omega), sU_s]
        · rw [xs (20 + 9) i (by omega) (by omega), xs (20 + 10) i (by omega) (by omega), xs (20 + 11) i (by omega) (by omega), ms 48 i (by omega) (by omega), ms 49 i (by omega) (by omega), ms 50 i (by omega) (by omega)]
          exact k4 i (by omega)
      · rw [xs (20 + 12) i (by omega) (by omega), ms 17 i (by omega) (by omega)]
        exact t i hi
    · show fX11_see 5000 (nI g) (nI y) (nI u) SX = _
      rw [hX2, if_pos (show nI q < 8 from nI_lt (b := 8) hq8 (by decide))]
      unfold fX11_see_b65
      have he : fX5_add 5000 28 (nI g) (nI y) (nI u) SX = some (0, X3) := by
        unfold fX5_add fX5_add_b0
        rw [g2, if_neg (show ¬ (8 : Int32) ≤ nI q from nI_ge (b := 8) hq8 (by decide))]
        unfold fX5_add_b9
        dsimp only [lt]
        rw [g2, hqc, chk_t hin, show sU SX (28 + 1) q (nI g) 28 3 = nI q by rw [sU_n (by omega)]; exact g2, hqc, chk_t hin, show sU (sU SX (28 + 1) q (nI g)) (28 + 2) q (nI y) 28 3 = nI q by rw [sU_n (by omega), sU_n (by omega)]; exact g2, hqc, chk_t hin, show sU (sU (sU SX (28 + 1) q (nI g)) (28 + 2) q (nI y)) (28 + 3) q (nI u) 28 3 = nI q by rw [sU_n (by omega), sU_n (by omega), sU_n (by omega)]; exact g2, nI_1]
        show some (0, sU (sU (sU (sU SX 29 q (nI g)) 30 q (nI y)) 31 q (nI u)) 28 3 (nI (q + 1))) = _
        rw [← e3]
      rw [bnd_t he]
      show some (0, X3 28 3, X3) = _
      rw [x28]
    · show fX12_see 5000 (nI g) (nI y) (nI u) SM = _
      rw [hMM, if_neg (show ¬ nI q = 8 from fun z => h8 ((nI_eq (b := 8) (by omega) (by omega)).mp z)), h2, h3]
      show fX12_see_b58 5000 (nI g) (nI y) (nI u) S1 = _
      unfold fX12_see_b58
      dsimp only [lt]
      rw [g3, hqc, chk_t hin, show sU S1 48 q (nI g) 99 40 = nI q by rw [sU_n (by omega)]; exact g3, hqc, chk_t hin, show sU (sU S1 48 q (nI g)) 49 q (nI y) 99 40 = nI q by rw [sU_n (by omega), sU_n (by omega)]; exact g3, hqc, chk_t hin, show sU (sU (sU S1 48 q (nI g)) 49 q (nI y)) 50 q (nI u) 99 40 = nI q by rw [sU_n (by omega), sU_n (by omega), sU_n (by omega)]; exact g3, nI_1, ← f3, m40]
    · rw [ms 99 4 (by omega) (by omega)]; exact c0
