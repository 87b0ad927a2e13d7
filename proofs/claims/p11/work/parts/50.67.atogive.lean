/-! toGive -/
def ansL (c : Nat → Bool) (n : Nat) (v : Int32) : Prop := (∃ k, k < n ∧ c k = true ∧ (∀ i, i < k → c i = false) ∧ v = nI k) ∨ ((∀ i, i < n → c i = false) ∧ v = -1)
theorem ansL.u {c : Nat → Bool} {n : Nat} : ∀ v v', ansL c n v → ansL c n v' → v = v' := by
  rintro v v' (⟨k, a1, a2, a3, a4⟩ | ⟨a1, a2⟩) (⟨k', b1, b2, b3, b4⟩ | ⟨b1, b2⟩)
  · have : k = k' := by
      rcases Nat.lt_trichotomy k k' with h | h | h
      · rw [b3 k h] at a2; cases a2
      · exact h
      · rw [a3 k' h] at b2; cases b2
    rw [a4, b4, this]
  · rw [b1 k a1] at a2; cases a2
  · rw [a1 k' b1] at b2; cases b2
  · rw [a2, b2]
theorem fH_gone {Z : gS} {e we ho : Int32} {q : qT} (h : q.2.2.2 = -1) : (fH Z e we ho q).2 = -1 := by
  unfold fH
  rw [if_pos h]
theorem trj_gone {Z : gS} {e d : Int32} {wf : Nat → Int32} {h : Nat} {q : qT} {k : Nat} (hk : (trj Z e d wf h q k).2.2.2 = -1) : ∀ m, (trj Z e d wf h q (k + m)).2.2.2 = -1 := by
  intro m
  induction m with
  | zero => exact hk
  | succ m ih => exact fH_gone (q := (sn1 Z e d (wf (h + (k + m))) (nI (h + (k + m))) (trj Z e d wf h q (k + m)), (trj Z e d wf h q (k + m)).2)) ih
noncomputable def puq (q : qT) (v : Nat) : qT := (q.1, nI v, q.2.2)
noncomputable def kpB (Z : gS) (e d : Int32) (h n : Nat) (q : qT) (v : Nat) : Bool := decide (¬ (trj Z e d (wetZ Z) h (puq q v) n).2.2.2 = -1)
theorem puq_ok {n0 v : Nat} {q : qT} (h : qOK n0 q) (hv : v ≤ 999) : qOK n0 (puq q v) := ⟨h.1, of_999 hv, h.2.2⟩
section
variable {Z SX : gS} {h n g : Nat} {d : Int32} {qs : Nat → qT}
theorem x_keeps {S : gS} {v : Nat} (Zk : tOK Z) (C : cSit 21 Z SX h d qs) (K : qsOK Z (Z 5) qs) (hg : g < tn1 Z) (h9 : h ≤ 999) (hn : n ≤ 60) (hv : v ≤ 999) (s : oSame xWk SX S) : ∃ S', fX11_keeps 5000 (nI g) (nI n) (nI v) S = some (iv (kpB Z (Z 5 g) d h n (qs g) v), S') ∧ oSame xWk SX S' := by
  have C' := C.on (Or.inl rfl) s
  obtain ⟨X1, b1, b2, b3⟩ := x_begin (N := 5000) (Or.inl rfl) Zk C' hg (by omega)
  have he := K.2.2 g hg
  have hq := puq_ok (v := v) (K.1 g hg) hv
  have b5 : wkA (sU X1 51 2 (nI v)) (Z 5 g) d (nI h) (puq (qs g) v) := by
    obtain ⟨w0, w1, w2, w3, w4, w5, w7⟩ := b2
    refine ⟨?_, ?_, sU_s, ?_, ?_, ?_, ?_⟩ <;> rw [sU_n (by omega)] <;> assumption
  have main : Gv (fX11_keeps_h30 5000 5000 (nI n) 0 (sU X1 51 2 (nI v))) (fun r => r.1 = iv (kpB Z (Z 5 g) d h n (qs g) v) ∧ oSame xWk SX r.2) := by
    refine loopG (A := gS) (fun f k S => fX11_keeps_h30 5000 f (nI n) (nI k) S) (fun k S' => wkA S' (Z 5 g) d (nI (h + k)) (trj Z (Z 5 g) d (wetZ Z) h (puq (qs g) v) k) ∧ oSame xWk SX S') _ n ?_ ?_ n 0 _ 5000 (by omega) ⟨b5, (s.tr b3).up rfl⟩ (by omega)
    · rintro f S1 ⟨i1, i2⟩
      refine ⟨(iv (kpB Z (Z 5 g) d h n (qs g) v), S1), ?_, rfl, i2⟩
      show fX11_keeps_b30 5000 _ (nI n) (nI n) S1 = _
      unfold fX11_keeps_b30
      rw [if_pos (nI_le (Nat.le_refl _) (by omega))]
      unfold fX11_keeps_b79 kpB
      rw [i1.2.2.2.2.1]
      by_cases hz : (trj Z (Z 5 g) d (wetZ Z) h (puq (qs g) v) n).2.2.2 = -1
      · rw [if_pos hz, decide_eq_false (fun q => q hz)]; rfl
      · rw [if_neg hz, decide_eq_true hz]; rfl
    · rintro f k S1 hk ⟨i1, i2⟩
      by_cases hz : (trj Z (Z 5 g) d (wetZ Z) h (puq (qs g) v) k).2.2.2 = -1
      · refine Or.inl ⟨(iv (kpB Z (Z 5 g) d h n (qs g) v), S1), ?_, rfl, i2⟩
        have hz2 := trj_gone hz (n - k)
        rw [show k + (n - k) = n by omega] at hz2
        show fX11_keeps_b30 5000 _ (nI n) (nI k) S1 = _
        unfold fX11_keeps_b30
        rw [if_neg (nI_ge hk (by omega))]
        unfold fX11_keeps_b36 fX11_keeps_b79 kpB
        rw [i1.2.2.2.2.1, if_pos hz, if_pos hz, decide_eq_false (fun q => q hz2)]
        rfl
      · have hT : tXz (xtw SX) Z S1 := C.1.on xtw_cases i2
        obtain ⟨S2, r1, r2, r3⟩ := x_passHour (N := 5000) (we := wetZ Z (h + k)) xtw_cases Zk hT (trj_ok hq he k) he i1 (by decide)
        rw [nI_1] at r2
        refine Or.inr ⟨S2, ⟨r2, i2.tr r3⟩, ?_⟩
        show fX11_keeps_b30 5000 (fX11_keeps_h30 5000 f) (nI n) (nI k) S1 = _
        unfold fX11_keeps_b30
        rw [if_neg (nI_ge hk (by omega))]
        unfold fX11_keeps_b36
        rw [i1.2.2.2.2.1, if_neg hz]
        unfold fX11_keeps_b47
        dsimp only [lt]
        rw [xWk.tw i2, i1.2.2.2.2.2.1, bnd_t (x_wetZ Zk hT (by omega))]
        dsimp only
        rw [bnd_t r1, nI_1]
  obtain ⟨⟨u, S'⟩, r1, r2, r3⟩ := main
  dsimp only at r2 r3
  subst r2
  refine ⟨S', ?_, r3⟩
  unfold fX11_keeps fX11_keeps_b0
  dsimp only [lt]
  rw [bnd_t b1]
  exact r1
theorem x_leastAll {S : gS} (Zk : tOK Z) (C : cSit 21 Z SX h d qs) (K : qsOK Z (Z 5) qs) (hg : g < tn1 Z) (h9 : h ≤ 999) (hn : n ≤ 60) (s : oSame xWk SX S) : ∃ v S', fX11_leastOfAllPurses 5000 (nI g) (nI n) S = some (v, S') ∧ ansL (kpB Z (Z 5 g) d h n (qs g)) 1000 v ∧ oSame xWk SX S' := by
  have main : Gv (fX11_leastOfAllPurses_h2 5000 5000 (nI g) (nI n) 0 S) (fun r => ansL (kpB Z (Z 5 g) d h n (qs g)) 1000 r.1 ∧ oSame xWk SX r.2) := by
    refine loopG (A := gS) (fun f v S => fX11_leastOfAllPurses_h2 5000 f (nI g) (nI n) (nI v) S) (fun v S' => (∀ i, i < v → kpB Z (Z 5 g) d h n (qs g) i = false) ∧ oSame xWk SX S') _ 1000 ?_ ?_ 1000 0 S 5000 (by omega) ⟨fun i hi => by omega, s⟩ (by omega)
    · rintro f S1 ⟨i1, i2⟩
      refine ⟨(-1, S1), ?_, Or.inr ⟨i1, rfl⟩, i2⟩
      show fX11_leastOfAllPurses_b2 5000 _ (nI g) (nI n) (nI 1000) S1 = _
      unfold fX11_leastOfAllPurses_b2
      rw [if_pos (by decide)]
      rfl
    · rintro f v S1 hv ⟨i1, i2⟩
      obtain ⟨S2, r1, r2⟩ := x_keeps (v := v) Zk C K hg h9 hn (by omega) i2
      have hF : fX11_leastOfAllPurses_h2 5000 (f + 1) (nI g) (nI n) (nI v) S1 = if iv (kpB Z (Z 5 g) d h n (qs g) v) = 0 then fX11_leastOfAllPurses_b21 5000 (fX11_leastOfAllPurses_h2 5000 f) (nI g) (nI n) (nI v) S2 else fX11_leastOfAllPurses_b19 5000 (nI v) S2 := by
        show fX11_leastOfAllPurses_b2 5000 (fX11_leastOfAllPurses_h2 5000 f) (nI g) (nI n) (nI v) S1 = _
        unfold fX11_leastOfAllPurses_b2
        rw [if_neg (show ¬ (999 : Int32) < nI v from nI_nlt (a := 999) (by omega) (by decide))]
        unfold fX11_leastOfAllPurses_b9
        rw [bnd_t r1]
      cases hb : kpB Z (Z 5 g) d h n (qs g) v with
      | false =>
        refine Or.inr ⟨S2, ⟨fun i hi => ?_, r2⟩, ?_⟩
        · by_cases hi2 : i = v
          · rw [hi2]; exact hb
          · exact i1 i (by omega)
        · show fX11_leastOfAllPurses_h2 5000 (f + 1) (nI g) (nI n) (nI v) S1 = _
          rw [hF, hb]
          show fX11_leastOfAllPurses_b21 5000 (fX11_leastOfAllPurses_h2 5000 f) (nI g) (nI n) (nI v) S2 = _
          unfold fX11_leastOfAllPurses_b21
          rw [nI_1]
      | true =>
        refine Or.inl ⟨(nI v, S2), ?_, Or.inl ⟨v, hv, hb, i1, rfl⟩, r2⟩
        show fX11_leastOfAllPurses_h2 5000 (f + 1) (nI g) (nI n) (nI v) S1 = _
        rw [hF, hb]
        rfl
  obtain ⟨⟨v, S'⟩, r1, r2, r3⟩ := main
  exact ⟨v, S', r1, r2, r3⟩
theorem x_leastHalf {S : gS} (Zk : tOK Z) (C : cSit 21 Z SX h d qs) (K : qsOK Z (Z 5) qs) (hg : g < tn1 Z) (h9 : h ≤ 999) (hn : n ≤ 60) (mono : ∀ u v, u ≤ v → v ≤ 999 → kpB Z (Z 5 g) d h n (qs g) u = true → kpB Z (Z 5 g) d h n (qs g) v = true) (s : oSame xWk SX S) : ∃ v S', fX11_leastByHalves 5000 (nI g) (nI n) S = some (v, S') ∧ ansL (kpB Z (Z 5 g) d h n (qs g)) 1000 v ∧ oSame xWk SX S' := by
  have fin : ∀ lo S1, lo ≤ 1000 → (∀ i, i < lo → kpB Z (Z 5 g) d h n (qs g) i = false) → (lo ≤ 999 → kpB Z (Z 5 g) d h n (qs g) lo = true) → oSame xWk SX S1 → Gv (fX11_leastByHalves_b69 5000 (nI lo) S1) (fun r => ansL (kpB Z (Z 5 g) d h n (qs g)) 1000 r.1 ∧ oSame xWk SX r.2) := by
    intro lo S1 h1 h2 h3 s1
    unfold fX11_leastByHalves_b69
    by_cases hl : lo ≤ 999
    · rw [if_pos (show nI lo ≤ 999 from nI_le (b := 999) hl (by decide))]
      exact ⟨(nI lo, S1), rfl, Or.inl ⟨lo, by omega, h3 hl, h2, rfl⟩, s1⟩
    · rw [if_neg (show ¬ nI lo ≤ 999 from nI_ge (a := 999) (by omega) (by omega))]
      exact ⟨(-1, S1), rfl, Or.inr ⟨fun i hi => h2 i (by omega), rfl⟩, s1⟩
  have main : Gv (fX11_leastByHalves_h10 5000 5000 (nI g) (nI n) (nI 0) (nI 1000) 0 S) (fun r => ansL (kpB Z (Z 5 g) d h n (qs g)) 1000 r.1 ∧ oSame xWk SX r.2) := by
    refine loopG (A := Nat × Nat × gS) (fun f i a => fX11_leastByHalves_h10 5000 f (nI g) (nI n) (nI a.1) (nI a.2.1) (nI i) a.2.2) (fun i a => a.1 ≤ a.2.1 ∧ a.2.1 ≤ 1000 ∧ a.2.1 - a.1 + i ≤ 1000 ∧ (∀ i, i < a.1 → kpB Z (Z 5 g) d h n (qs g) i = false) ∧ (a.2.1 ≤ 999 → kpB Z (Z 5 g) d h n (qs g) a.2.1 = true) ∧ oSame xWk SX a.2.2) _ 1000 ?_ ?_ 1000 0 (0, 1000, S) 5000 (by omega) ⟨Nat.zero_le _, Nat.le_refl _, Nat.le_refl _, fun i hi => absurd hi (Nat.not_lt_zero _), fun hh => absurd hh (show ¬ 1000 ≤ 999 by decide), s⟩ (by omega)
    · rintro f ⟨lo, hi, S1⟩ ⟨i1, i2, i3, i4, i5, i6⟩
      dsimp only at i1 i2 i3 i4 i5 i6
      have : lo = hi := by omega
      subst this
      show Gv (fX11_leastByHalves_b10 5000 _ (nI g) (nI n) (nI lo) (nI lo) (nI 1000) S1) _
      unfold fX11_leastByHalves_b10
      rw [if_pos (by decide)]
      exact fin lo S1 i2 i4 i5 i6
    · rintro f i ⟨lo, hi, S1⟩ hi1 ⟨i1, i2, i3, i4, i5, i6⟩
      dsimp only at i1 i2 i3 i4 i5 i6
      have h10 : fX11_leastByHalves_h10 5000 (f + 1) (nI g) (nI n) (nI lo) (nI hi) (nI i) S1 = fX11_leastByHalves_b18 5000 (fX11_leastByHalves_h10 5000 f) (nI g) (nI n) (nI lo) (nI hi) (nI i) S1 := by
        show fX11_leastByHalves_b10 5000 (fX11_leastByHalves_h10 5000 f) (nI g) (nI n) (nI lo) (nI hi) (nI i) S1 = _
        unfold fX11_leastByHalves_b10
        rw [if_neg (show ¬ (999 : Int32) < nI i from nI_nlt (a := 999) (by omega) (by decide))]
      by_cases he : lo = hi
      · subst he
        refine Or.inl ?_
        show Gv (fX11_leastByHalves_h10 5000 (f + 1) (nI g) (nI n) (nI lo) (nI lo) (nI i) S1) _
        rw [h10]
        unfold fX11_leastByHalves_b18
        rw [if_pos (nI_le (Nat.le_refl _) (by omega))]
        exact fin lo S1 i2 i4 i5 i6
      · obtain ⟨mi, hmi⟩ : ∃ z, z = (lo + hi) / 2 := ⟨_, rfl⟩
        have em : (nI lo + nI hi) / 2 = nI mi := by rw [nI_add, show (2 : Int32) = nI 2 from rfl, pk_div (by omega) (by decide) (by decide), hmi]
        obtain ⟨S2, r1, r2⟩ := x_keeps (v := mi) Zk C K hg h9 hn (by omega) i6
        have hF : fX11_leastByHalves_h10 5000 (f + 1) (nI g) (nI n) (nI lo) (nI hi) (nI i) S1 = if iv (kpB Z (Z 5 g) d h n (qs g) mi) = 0 then fX11_leastByHalves_b58 5000 (fX11_leastByHalves_h10 5000 f) (nI g) (nI n) (nI hi) (nI i) (nI mi) S2 else fX11_leastByHalves_b51 5000 (fX11_leastByHalves_h10 5000 f) (nI g) (nI n) (nI lo) (nI i) (nI mi) S2 := by
          rw [h10]
          unfold fX11_leastByHalves_b18
          rw [if_neg (nI_ge (by omega) (by omega))]
          unfold fX11_leastByHalves_b24
          rw [em, if_neg (show ¬ (999 : Int32) < nI mi from nI_nlt (a := 999) (by omega) (by decide))]
          unfold fX11_leastByHalves_b40
          rw [bnd_t r1]
        cases hb : kpB Z (Z 5 g) d h n (qs g) mi with
        | false =>
          refine Or.inr ⟨(mi + 1, hi, S2), ⟨by dsimp only; omega, i2, by dsimp only; omega, fun t ht => ?_, i5, r2⟩, ?_⟩
          · dsimp only at ht
            cases hk : kpB Z (Z 5 g) d h n (qs g) t with
            | false => rfl
            | true =>
              rw [mono t mi (by omega) (by omega) hk] at hb
              cases hb
          · show fX11_leastByHalves_h10 5000 (f + 1) (nI g) (nI n) (nI lo) (nI hi) (nI i) S1 = _
            rw [hF, hb]
            show fX11_leastByHalves_b58 5000 (fX11_leastByHalves_h10 5000 f) (nI g) (nI n) (nI hi) (nI i) (nI mi) S2 = _
            unfold fX11_leastByHalves_b58 fX11_leastByHalves_b63
            rw [nI_1, nI_1]
        | true =>
          refine Or.inr ⟨(lo, mi, S2), ⟨by dsimp only; omega, by dsimp only; omega, by dsimp only; omega, i4, fun _ => hb, r2⟩, ?_⟩
          show fX11_leastByHalves_h10 5000 (f + 1) (nI g) (nI n) (nI lo) (nI hi) (nI i) S1 = _
          rw [hF, hb]
          show fX11_leastByHalves_b51 5000 (fX11_leastByHalves_h10 5000 f) (nI g) (nI n) (nI lo) (nI i) (nI mi) S2 = _
          unfold fX11_leastByHalves_b51 fX11_leastByHalves_b63
          rw [nI_1]
  obtain ⟨⟨v, S'⟩, r1, r2, r3⟩ := main
  exact ⟨v, S', r1, r2, r3⟩
theorem x_minds {N k0 m : Nat} {S : gS} (hn : S k0 3 = nI m) (h7 : m ≤ 700) (hN : 700 < N) : ∃ b : Bool, fX4_minds N k0 10001 S = some (iv b, S) ∧ (b = false → ∀ j, j < m → S (k0 + 1) j ≠ 10001) := by
  have main : Gv (fX4_minds_h2 N N k0 10001 0 S) (fun r => ∃ b : Bool, r = (iv b, S) ∧ (b = false → ∀ j, j < m → S (k0 + 1) j ≠ 10001)) := by
    refine loopG (A := Unit) (fun f i _ => fX4_minds_h2 N f k0 10001 (nI i) S) (fun i _ => ∀ j, j < i → S (k0 + 1) j ≠ 10001) _ m ?_ ?_ m 0 () N (by omega) (fun j hj => by omega) (by omega)
    · intro f a i1
      refine ⟨(0, S), ?_, false, rfl, fun _ => i1⟩
      show fX4_minds_b2 N _ k0 10001 (nI m) S = _
      unfold fX4_minds_b2
      rw [hn, if_pos (nI_le (Nat.le_refl _) (by omega))]
      rfl
    · intro f i a hi i1
      have hF : fX4_minds_h2 N (f + 1) k0 10001 (nI i) S = if S (k0 + 1) i = 10001 then fX4_minds_b20 N S else fX4_minds_b22 N (fX4_minds_h2 N f) k0 10001 (nI i) S := by
        show fX4_minds_b2 N (fX4_minds_h2 N f) k0 10001 (nI i) S = _
        unfold fX4_minds_b2
        rw [hn, if_neg (nI_ge hi (by omega))]
        unfold fX4_minds_b10
        rw [chk_t (inb_t (by omega) (by decide)), nI_clamp (by omega)]
      by_cases hc : S (k0 + 1) i = 10001
      · refine Or.inl ⟨(1, S), ?_, true, rfl, fun z => by cases z⟩
        show fX4_minds_h2 N (f + 1) k0 10001 (nI i) S = _
        rw [hF, if_pos hc]
        rfl
      · refine Or.inr ⟨(), fun j hj => ?_, ?_⟩
        · by_cases hj2 : j = i
          · rw [hj2]; exact hc
          · exact i1 j (by omega)
        · show fX4_minds_h2 N (f + 1) k0 10001 (nI i) S = _
          rw [hF, if_neg hc]
          unfold fX4_minds_b22
          rw [nI_1]
  obtain ⟨r, r1, b, rfl, r2⟩ := main
  exact ⟨b, r1, r2⟩
end
/-! where no rule minds PURSE, more of it does no harm -/
theorem env_pu {Z : gS} {k : Nat} {si pu pu' we ho gr : Int32} {c : Nat → Int32} {n : Nat} (ok : rOK c n) (hm : ∀ j, j < n → c j ≠ 10001) : rV c n (env Z k si pu we ho gr) = rV c n (env Z k si pu' we ho gr) := by
  refine rV_env ok (fun i hi hx => ?_)
  rcases (show i = 0 ∨ i = 1 ∨ i = 2 ∨ i = 3 ∨ i = 4 ∨ i = 5 ∨ i = 6 by omega) with rfl | rfl | rfl | rfl | rfl | rfl | rfl
  · rfl
  · obtain ⟨j, hj, e⟩ := hx
    exact absurd e (hm j hj)
  · rfl
  · rfl
  · rfl
  · rfl
  · rfl
section
variable {Z : gS} {e d : Int32}
def noPu (Z : gS) : Prop := (∀ j, j < tnp Z → Z 11 j ≠ 10001) ∧ ∀ j, j < tnc Z → Z 14 j ≠ 10001
/-- the one with less and the one with more, as long as the first keeps its GROTTO -/
def leQ (a b : qT) : Prop := a.1 = b.1 ∧ a.2.2 = b.2.2 ∧ ∃ x y : Nat, x ≤ y ∧ y ≤ 999 ∧ a.2.1 = nI x ∧ b.2.1 = nI y
theorem prZ_pu {k : Nat} {si pu pu' we ho gr : Int32} (Zk : tOK Z) (np : noPu Z) : prZ Z k si pu we ho gr = prZ Z k si pu' we ho gr := by
  unfold prZ
  rw [env_pu Zk.2.2.2.2.2.2.1.2.2 np.1 (pu := pu) (pu' := pu')]
theorem coZ_pu {k : Nat} {si pu pu' we ho gr : Int32} (Zk : tOK Z) (np : noPu Z) : coZ Z k si pu we ho gr = coZ Z k si pu' we ho gr := by
  unfold coZ
  rw [env_pu Zk.2.2.2.2.2.2.2.2.2 np.2 (pu := pu) (pu' := pu')]
theorem leQ_hour {we ho : Int32} {a b : qT} (Zk : tOK Z) (np : noPu Z) (he : eOK e) (h : leQ a b) (hk : ¬ (hG Z e d we ho a).2.2.2.2 = -1) : leQ (hG Z e d we ho a).2 (hG Z e d we ho b).2 := by
  obtain ⟨h1, h2, x, y, hxy, hy, ex, ey⟩ := h
  obtain ⟨g, g9, rfl⟩ := he
  have hs : sn1 Z (nI g) d we ho a = sn1 Z (nI g) d we ho b := by
    unfold sn1 qk prD
    rw [h1, h2]
    by_cases q1 : b.2.2.2 = -1
    · rw [if_pos q1, if_pos q1]
    · rw [if_neg q1, if_neg q1, prZ_pu (pu := a.2.1) (pu' := b.2.1) Zk np, prZ_pu (si := prZ Z b.2.2.2.toNatClampNeg b.1 b.2.1 we ho (nI g)) (pu := a.2.1) (pu' := b.2.1) Zk np]
  obtain ⟨a', ha'⟩ : ∃ z : qT, z = (sn1 Z (nI g) d we ho a, a.2) := ⟨_, rfl⟩
  obtain ⟨b', hb'⟩ : ∃ z : qT, z = (sn1 Z (nI g) d we ho b, b.2) := ⟨_, rfl⟩
  have a1 : a'.1 = b'.1 := by rw [ha', hb']; exact hs
  have a22 : a'.2.2 = b'.2.2 := by rw [ha', hb']; exact h2
  have ax : a'.2.1 = nI x := by rw [ha']; exact ex
  have bx : b'.2.1 = nI y := by rw [hb']; exact ey
  unfold hG at hk ⊢
  rw [← ha'] at hk ⊢
  rw [← hb']
  clear ha' hb' hs
  have eS : fS (nI g) a' = fS (nI g) b' := by unfold fS; rw [a1]
  have eC : fC Z (nI g) we ho a' = fC Z (nI g) we ho b' := by
    unfold fC qk
    rw [eS, a22]
    exact coZ_pu Zk np
  have eB : fB Z (nI g) a' = fB Z (nI g) b' := by unfold fB; rw [eS]
  have pA : fP (nI g) a' = nI (min 999 (x + 3 * g)) := by unfold fP; rw [ax, hp1_n g9 (by omega)]
  have pB : fP (nI g) b' = nI (min 999 (y + 3 * g)) := by unfold fP; rw [bx, hp1_n g9 (by omega)]
  obtain ⟨c, hc, ec⟩ : ∃ c : Nat, c ≤ 50 ∧ fC Z (nI g) we ho b' = nI c := c50_n _
  have hk2 : ¬ (fH Z (nI g) we ho a').2 = -1 := hk
  have key : ∃ u v : Nat, u ≤ v ∧ v ≤ 999 ∧ fH Z (nI g) we ho a' = (nI u, a'.2.2.2) ∧ fH Z (nI g) we ho b' = (nI v, a'.2.2.2) := by
    unfold fH at hk2 ⊢
    rw [← a22]
    by_cases q1 : a'.2.2.2 = -1
    · rw [if_pos q1] at hk2
      exact absurd rfl hk2
    · rw [if_neg q1] at hk2 ⊢
      rw [if_neg q1, eC, ec, pA, pB]
      rw [eC, ec, pA] at hk2
      by_cases q2 : nI (min 999 (x + 3 * g)) < nI c
      · rw [if_pos q2] at hk2
        exact absurd rfl hk2
      · have q3 : c ≤ min 999 (x + 3 * g) := by
          have := mt (nI_ltI (a := min 999 (x + 3 * g)) (b := c) (by omega) (by omega)).mpr q2
          omega
        rw [if_neg q2, if_neg (nI_nlt (by omega) (by omega)), pk_sub q3, pk_sub (by omega)]
        exact ⟨_, _, by omega, by omega, rfl, rfl⟩
  obtain ⟨u, v, huv, hv, eu, ev⟩ := key
  refine ⟨eS, ?_, ?_⟩
  · show ((if fB Z (nI g) a' = true then sl1 a'.2.2.1 else a'.2.2.1), (fH Z (nI g) we ho a').2) = ((if fB Z (nI g) b' = true then sl1 b'.2.2.1 else b'.2.2.1), (fH Z (nI g) we ho b').2)
    rw [eB, eu, ev, a22]
  · show ∃ x y : Nat, x ≤ y ∧ y ≤ 999 ∧ (if fB Z (nI g) a' = true then (fH Z (nI g) we ho a').1 / 2 else (fH Z (nI g) we ho a').1) = nI x ∧ (if fB Z (nI g) b' = true then (fH Z (nI g) we ho b').1 / 2 else (fH Z (nI g) we ho b').1) = nI y
    rw [eB, eu, ev]
    by_cases hb : fB Z (nI g) b' = true
    · rw [if_pos hb, if_pos hb, show (2 : Int32) = nI 2 from rfl, pk_div (by omega) (by decide) (by decide), pk_div (by omega) (by decide) (by decide)]
      exact ⟨u / 2, v / 2, by omega, by omega, rfl, rfl⟩
    · rw [if_neg hb, if_neg hb]
      exact ⟨u, v, huv, hv, rfl, rfl⟩
theorem kp_mono {h n : Nat} {q : qT} (Zk : tOK Z) (np : noPu Z) (he : eOK e) : ∀ u v, u ≤ v → v ≤ 999 → kpB Z e d h n q u = true → kpB Z e d h n q v = true := by
  intro u v huv hv hu
  have hu2 := of_decide_eq_true hu
  have key : ∀ k, k ≤ n → leQ (trj Z e d (wetZ Z) h (puq q u) k) (trj Z e d (wetZ Z) h (puq q v) k) := by
    intro k
    induction k with
    | zero => intro _; exact ⟨rfl, rfl, u, v, huv, hv, rfl, rfl⟩
    | succ k ih =>
      intro hk
      refine leQ_hour Zk np he (ih (by omega)) (fun z => ?_)
      have hz := trj_gone (Z := Z) (e := e) (d := d) (wf := wetZ Z) (h := h) (q := puq q u) (k := k + 1) z (n - (k + 1))
      rw [show k + 1 + (n - (k + 1)) = n by omega] at hz
      exact hu2 hz
  obtain ⟨-, k2, -⟩ := key n (Nat.le_refl _)
  unfold kpB
  rw [← show (trj Z e d (wetZ Z) h (puq q u) n).2.2.2 = (trj Z e d (wetZ Z) h (puq q v) n).2.2.2 from congrArg Prod.snd k2]
  exact hu
end
