/-! together -/
abbrev cmN (c d n : Nat) : Prop := (n - 1 + c) % d = 0
theorem cm_add {c d n t : Nat} (h1 : 1 ≤ n) : cmN c d (n + t * d) ↔ cmN c d n := by
  unfold cmN
  rw [show n + t * d - 1 + c = n - 1 + c + t * d by omega, Nat.add_mul_mod_self_right]
theorem tg_none {k L c d : Nat} {P : Nat → Prop} (k1 : 1 ≤ k) (hd : 1 ≤ d) (hP : ∀ n, 1 ≤ n → (P n ↔ ∃ m, n = k + m * L)) (h : ∀ i, i < d → ¬ cmN c d (k + i * L)) : ∀ n, 1 ≤ n → ¬ (P n ∧ cmN c d n) := by
  rintro n n1 ⟨a, b⟩
  obtain ⟨m, rfl⟩ := (hP n n1).mp a
  refine h (m % d) (Nat.mod_lt _ (by omega)) ?_
  have e : k + m * L = k + m % d * L + (m / d * L) * d := by
    have h0 : m = d * (m / d) + m % d := (Nat.div_add_mod m d).symm
    have h1 : m * L = m / d * L * d + m % d * L := by
      calc m * L = (d * (m / d) + m % d) * L := by rw [← h0]
        _ = d * (m / d) * L + m % d * L := Nat.add_mul _ _ _
        _ = m / d * L * d + m % d * L := by rw [Nat.mul_assoc, Nat.mul_comm d]
    omega
  rw [e] at b
  exact (cm_add (by omega)).mp b
theorem tg_some {k L c d i0 : Nat} {P : Nat → Prop} (k1 : 1 ≤ k) (kL : k ≤ L) (hd : 1 ≤ d) (hP : ∀ n, 1 ≤ n → (P n ↔ ∃ m, n = k + m * L)) (h0 : cmN c d (k + i0 * L)) (h : ∀ i, i < i0 → ¬ cmN c d (k + i * L)) : k + i0 * L ≤ Nat.lcm L d ∧ ∀ n, 1 ≤ n → (P n ∧ cmN c d n ↔ ∃ m, n = k + i0 * L + m * Nat.lcm L d) := by
  obtain ⟨a, ha⟩ := Nat.dvd_lcm_left L d
  obtain ⟨b, hb⟩ := Nat.dvd_lcm_right L d
  have lp : 0 < Nat.lcm L d := Nat.lcm_pos (by omega) (by omega)
  have a1 : 1 ≤ a := by
    rcases Nat.eq_zero_or_pos a with q | q
    · rw [q, Nat.mul_zero] at ha; omega
    · exact q
  refine ⟨?_, fun n n1 => ⟨?_, ?_⟩⟩
  · refine Nat.le_of_not_lt (fun q => ?_)
    have hi : a ≤ i0 := by
      refine Nat.le_of_not_lt (fun q2 => ?_)
      have h2 : (i0 + 1) * L ≤ a * L := Nat.mul_le_mul_right L (by omega)
      rw [Nat.succ_mul] at h2
      rw [ha, Nat.mul_comm L a] at q
      omega
    refine h (i0 - a) (by omega) ?_
    have e : k + i0 * L = k + (i0 - a) * L + b * d := by
      have h3 : i0 * L = (i0 - a) * L + a * L := by rw [← Nat.add_mul, show i0 - a + a = i0 by omega]
      have h4 : a * L = b * d := by rw [Nat.mul_comm a L, ← ha, hb, Nat.mul_comm d b]
      omega
    rw [e] at h0
    exact (cm_add (by omega)).mp h0
  · rintro ⟨p, q⟩
    obtain ⟨m, rfl⟩ := (hP n n1).mp p
    have hm : i0 ≤ m := Nat.le_of_not_lt (fun q2 => h m q2 q)
    have e1 : k + m * L = k + i0 * L + (m - i0) * L := by
      have h3 : m * L = (m - i0) * L + i0 * L := by rw [← Nat.add_mul, show m - i0 + i0 = m by omega]
      omega
    have dd : d ∣ (m - i0) * L := by
      unfold cmN at q h0
      have d1 := Nat.dvd_of_mod_eq_zero q
      have d2 := Nat.dvd_of_mod_eq_zero h0
      have d3 := Nat.dvd_sub d1 d2
      rw [show k + m * L - 1 + c - (k + i0 * L - 1 + c) = (m - i0) * L by omega] at d3
      exact d3
    obtain ⟨t, ht⟩ := Nat.lcm_dvd (Nat.dvd_mul_left L (m - i0)) dd
    exact ⟨t, by rw [e1, ht, Nat.mul_comm (Nat.lcm L d) t]⟩
  · rintro ⟨m, rfl⟩
    refine ⟨(hP _ n1).mpr ⟨i0 + m * a, ?_⟩, ?_⟩
    · rw [Nat.add_mul, Nat.mul_assoc, Nat.mul_comm a L, ← ha]
      omega
    · rw [hb, Nat.mul_comm d b, ← Nat.mul_assoc]
      exact (cm_add (by omega)).mpr h0
theorem cm_S {h p d n : Nat} {ph dr : Int32} (hp : ph = nI p) (hd : dr = nI d) (d1 : 1 ≤ d) (d2 : d < 2 ^ 31) (n1 : 1 ≤ n) (hb : h + n + p < 2 ^ 31) : cmS ph dr (nI (h + n - 1)) = decide (cmN (h + p) d n) := by
  unfold cmS cmN
  rw [hp, hd, nI_add, pk_rem (by omega) (by omega) d2, show h + n - 1 + p = n - 1 + (h + p) by omega]
  have hr : (n - 1 + (h + p)) % d < d := Nat.mod_lt _ (by omega)
  by_cases hz : (n - 1 + (h + p)) % d = 0
  · rw [hz, decide_eq_true (show nI 0 = 0 from rfl), decide_eq_true rfl]
  · rw [decide_eq_false (nI_ne0 (by omega) (by omega)), decide_eq_false hz]
/-- what all told GROTTOES below j do in HOUR n from now -/
def solZ (Z : gS) (h : Nat) (so : Int32) (j n : Nat) : Prop := ∀ k, k < j → bt so (nI k) = true → cmN (h + phZ Z k) (dpZ Z k) n
theorem solZ_s {Z : gS} {h : Nat} {so : Int32} {j n : Nat} : solZ Z h so (j + 1) n ↔ solZ Z h so j n ∧ (bt so (nI j) = true → cmN (h + phZ Z j) (dpZ Z j) n) := by
  refine ⟨fun q => ⟨fun k hk => q k (by omega), q j (by omega)⟩, fun q k hk => ?_⟩
  by_cases hh : k = j
  · rw [hh]; exact q.2
  · exact q.1 k (by omega)
section
variable {Z SX : gS} {h : Nat} {so : Int32}
theorem x_nextOf {j k L : Nat} (Zk : tOK Z) (hx : tXz (xtw SX) Z SX) (hh : SX 21 0 = nI h) (h9 : h ≤ 999) (hj : j < tn0 Z) (k1 : 1 ≤ k) (k2 : k ≤ 27720) (L2 : L ≤ 27720) : (fX11_nextOf 50000 (nI j) (nI k) (nI L) SX = some (-1, SX) ∧ ∀ i, i < dpZ Z j → ¬ cmN (h + phZ Z j) (dpZ Z j) (k + i * L)) ∨ ∃ i0, i0 < dpZ Z j ∧ fX11_nextOf 50000 (nI j) (nI k) (nI L) SX = some (nI (k + i0 * L), SX) ∧ cmN (h + phZ Z j) (dpZ Z j) (k + i0 * L) ∧ ∀ i, i < i0 → ¬ cmN (h + phZ Z j) (dpZ Z j) (k + i * L) := by
  have z8 := Zk.1.2
  obtain ⟨d1, d2, d3, d4, d5⟩ := dp_ok Zk hj
  have hT1 : SX (xtw SX + 1) j = nI (dpZ Z j) := (hx 1 j (by omega) (by omega)).trans d1
  have h00 : SX (xtw SX) 0 = nI (tn0 Z) := (hx 0 0 (by omega) (by omega)).trans Zk.1.1
  suffices Lp : ∀ (m i fuel : Nat), i + m = dpZ Z j → m < fuel → (∀ t, t < i → ¬ cmN (h + phZ Z j) (dpZ Z j) (k + t * L)) → (fX11_nextOf_h3 50000 fuel (nI j) (nI k) (nI L) (nI i) SX = some (-1, SX) ∧ ∀ i, i < dpZ Z j → ¬ cmN (h + phZ Z j) (dpZ Z j) (k + i * L)) ∨ ∃ i0, i0 < dpZ Z j ∧ fX11_nextOf_h3 50000 fuel (nI j) (nI k) (nI L) (nI i) SX = some (nI (k + i0 * L), SX) ∧ cmN (h + phZ Z j) (dpZ Z j) (k + i0 * L) ∧ ∀ i, i < i0 → ¬ cmN (h + phZ Z j) (dpZ Z j) (k + i * L) from Lp (dpZ Z j) 0 50000 (by omega) (by omega) (fun t ht => by omega)
  intro m
  induction m with
  | zero =>
    intro i fuel h1 h2 h3
    obtain ⟨f, rfl⟩ : ∃ f, fuel = f + 1 := ⟨fuel - 1, by omega⟩
    have : i = dpZ Z j := by omega
    refine Or.inl ⟨?_, fun t ht => h3 t (by omega)⟩
    show fX11_nextOf_b3 50000 _ (nI j) (nI k) (nI L) (nI i) SX = _
    unfold fX11_nextOf_b3
    dsimp only [lt]
    rw [chk_t (inb_t (by omega) (by decide)), nI_clamp (by omega), hT1, if_pos (nI_le (by omega) (by omega))]
    rfl
  | succ m ih =>
    intro i fuel h1 h2 h3
    obtain ⟨f, rfl⟩ : ∃ f, fuel = f + 1 := ⟨fuel - 1, by omega⟩
    have hiL : i * L ≤ 12 * 27720 := Nat.mul_le_mul (by omega) L2
    have hF : fX11_nextOf_h3 50000 (f + 1) (nI j) (nI k) (nI L) (nI i) SX = if iv (decide (cmN (h + phZ Z j) (dpZ Z j) (k + i * L))) = 0 then fX11_nextOf_b54 50000 (fX11_nextOf_h3 50000 f) (nI j) (nI k) (nI L) (nI i) SX else fX11_nextOf_b51 50000 (nI (k + i * L)) SX := by
      show fX11_nextOf_b3 50000 (fX11_nextOf_h3 50000 f) (nI j) (nI k) (nI L) (nI i) SX = _
      unfold fX11_nextOf_b3
      dsimp only [lt]
      rw [chk_t (inb_t (by omega) (by decide)), nI_clamp (by omega), hT1, if_neg (nI_ge (by omega) (by omega))]
      unfold fX11_nextOf_b17
      dsimp only [lt]
      rw [hh, pk_mul, nI_add, ahead_ix (by omega), bnd_t (x_comesRound h00 z8 hj hT1 d2 d3), cm_S (p := phZ Z j) (d := dpZ Z j) ((hx 2 j (by omega) (by omega)).trans d4) hT1 d2 (by omega) (by omega) (by omega)]
    by_cases hc : cmN (h + phZ Z j) (dpZ Z j) (k + i * L)
    · refine Or.inr ⟨i, by omega, ?_, hc, h3⟩
      rw [hF, decide_eq_true hc]
      rfl
    · rcases ih (i + 1) f (by omega) (by omega) (fun t ht => by
        by_cases ht2 : t = i
        · rw [ht2]; exact hc
        · exact h3 t (by omega)) with ⟨a, b⟩ | ⟨i0, a, b, c⟩
      · refine Or.inl ⟨?_, b⟩
        rw [hF, decide_eq_false hc]
        show fX11_nextOf_b54 50000 (fX11_nextOf_h3 50000 f) (nI j) (nI k) (nI L) (nI i) SX = _
        unfold fX11_nextOf_b54
        rw [nI_1]
        exact a
      · refine Or.inr ⟨i0, a, ?_, c⟩
        rw [hF, decide_eq_false hc]
        show fX11_nextOf_b54 50000 (fX11_nextOf_h3 50000 f) (nI j) (nI k) (nI L) (nI i) SX = _
        unfold fX11_nextOf_b54
        rw [nI_1]
        exact b
def ansT (P : Nat → Prop) (v : Int32) : Prop := (∃ n, 1 ≤ n ∧ n ≤ 27720 ∧ P n ∧ (∀ m, 1 ≤ m → m < n → ¬ P m) ∧ v = nI n) ∨ ((∀ n, 1 ≤ n → ¬ P n) ∧ v = -1)
theorem ansT.u {P : Nat → Prop} : ∀ v v', ansT P v → ansT P v' → v = v' := by
  rintro v v' (⟨k, a1, -, a2, a3, a4⟩ | ⟨a1, a2⟩) (⟨k', b1, -, b2, b3, b4⟩ | ⟨b1, b2⟩)
  · have : k = k' := by
      rcases Nat.lt_trichotomy k k' with h | h | h
      · exact absurd a2 (b3 k a1 h)
      · exact h
      · exact absurd b2 (a3 k' b1 h)
    rw [a4, b4, this]
  · exact absurd a2 (b1 k a1)
  · exact absurd b2 (a1 k' b1)
  · rw [a2, b2]
theorem x_together_h (Zk : tOK Z) (hx : tXz (xtw SX) Z SX) (hh : SX 21 0 = nI h) (h9 : h ≤ 999) : Gv (fX11_together_h12 50000 50000 so 1 1 0 SX) (fun r => r.1 = 0 ∧ ansT (solZ Z h so (tn0 Z)) r.2.1 ∧ xSame SX r.2.2) := by
  have z8 := Zk.1.2
  have x0 : SX (xtw SX) 0 = nI (tn0 Z) := (hx 0 0 (by omega) (by omega)).trans Zk.1.1
  refine loopG (A := Nat) (fun f j k => fX11_together_h12 50000 f so (nI k) (nI (rhN Z so j)) (nI j) SX) (fun j k => 1 ≤ k ∧ k ≤ rhN Z so j ∧ ∀ n, 1 ≤ n → (solZ Z h so j n ↔ ∃ m, n = k + m * rhN Z so j)) _ (tn0 Z) ?_ ?_ (tn0 Z) 0 1 50000 (by omega) ⟨by omega, Nat.le_refl _, fun n n1 => ⟨fun _ => ⟨n - 1, by show n = 1 + (n - 1) * 1; omega⟩, fun _ k hk => by omega⟩⟩ (by omega)
  · rintro f k ⟨i1, i2, i3⟩
    obtain ⟨r1, r2⟩ := rh_ok (so := so) Zk (tn0 Z) (Nat.le_refl _)
    have hl := Nat.le_of_dvd (by decide) r2
    refine ⟨(0, nI k, SX), ?_, rfl, Or.inl ⟨k, i1, by omega, (i3 k i1).mpr ⟨0, by omega⟩, fun m m1 m2 q => ?_, rfl⟩, xSame.rf⟩
    · show fX11_together_b12 50000 _ so (nI k) _ (nI (tn0 Z)) SX = _
      unfold fX11_together_b12
      dsimp only [lt]
      rw [x0, if_pos (nI_le (Nat.le_refl _) (by omega))]
      rfl
    · obtain ⟨t, ht⟩ := (i3 m m1).mp q
      omega
  · rintro f j k hj ⟨i1, i2, i3⟩
    obtain ⟨r1, r2⟩ := rh_ok (so := so) Zk j (by omega)
    have hl := Nat.le_of_dvd (by decide) r2
    obtain ⟨d1, d2, d3, d4, d5⟩ := dp_ok Zk hj
    have hF : fX11_together_h12 50000 (f + 1) so (nI k) (nI (rhN Z so j)) (nI j) SX = if iv (bt so (nI j)) = 0 then fX11_together_b64 50000 (fX11_together_h12 50000 f) so (nI k) (nI (rhN Z so j)) (nI j) SX else fX11_together_b33 50000 (fX11_together_h12 50000 f) so (nI k) (nI (rhN Z so j)) (nI j) SX := by
      show fX11_together_b12 50000 (fX11_together_h12 50000 f) so (nI k) _ (nI j) SX = _
      unfold fX11_together_b12
      dsimp only [lt]
      rw [x0, if_neg (nI_ge hj (by omega))]
      unfold fX11_together_b24
      rw [bnd_t x_isOneOf]
    cases hb : bt so (nI j) with
    | false =>
      have eR : rhN Z so (j + 1) = rhN Z so j := if_neg (by rw [hb]; decide)
      refine Or.inr ⟨k, ⟨i1, by rw [eR]; exact i2, fun n n1 => ?_⟩, ?_⟩
      · rw [eR, solZ_s, ← i3 n n1]
        exact ⟨fun q => q.1, fun q => ⟨q, fun z => by rw [hb] at z; cases z⟩⟩
      · show fX11_together_h12 50000 (f + 1) so (nI k) (nI (rhN Z so j)) (nI j) SX = _
        rw [hF, hb, eR]
        show fX11_together_b64 50000 (fX11_together_h12 50000 f) so (nI k) (nI (rhN Z so j)) (nI j) SX = _
        unfold fX11_together_b64
        rw [nI_1]
    | true =>
      have eR : rhN Z so (j + 1) = Nat.lcm (rhN Z so j) (dpZ Z j) := if_pos hb
      have hF2 : fX11_together_h12 50000 (f + 1) so (nI k) (nI (rhN Z so j)) (nI j) SX = fX11_together_b33 50000 (fX11_together_h12 50000 f) so (nI k) (nI (rhN Z so j)) (nI j) SX := by
        rw [hF, hb]
        rfl
      rcases x_nextOf (j := j) (k := k) (L := rhN Z so j) Zk hx hh h9 hj i1 (by omega) hl with ⟨a, b⟩ | ⟨i0, a, b, c, e⟩
      · refine Or.inl ⟨(0, -1, SX), ?_, rfl, Or.inr ⟨fun n n1 q => ?_, rfl⟩, xSame.rf⟩
        · show fX11_together_h12 50000 (f + 1) so (nI k) (nI (rhN Z so j)) (nI j) SX = _
          rw [hF2]
          unfold fX11_together_b33
          rw [bnd_t a]
          rfl
        · refine tg_none (P := solZ Z h so j) i1 d2 i3 b n n1 ⟨fun t ht => q t (by omega), q j hj hb⟩
      · obtain ⟨t1, t2⟩ := tg_some (P := solZ Z h so j) i1 i2 d2 i3 c e
        refine Or.inr ⟨k + i0 * rhN Z so j, ⟨by omega, by rw [eR]; exact t1, fun n n1 => ?_⟩, ?_⟩
        · rw [eR, solZ_s, ← t2 n n1]
          exact ⟨fun q => ⟨q.1, q.2 hb⟩, fun q => ⟨q.1, fun _ => q.2⟩⟩
        · show fX11_together_h12 50000 (f + 1) so (nI k) (nI (rhN Z so j)) (nI j) SX = _
          rw [hF2]
          unfold fX11_together_b33
          have hiL : i0 * rhN Z so j ≤ 12 * 27720 := Nat.mul_le_mul (by omega) hl
          rw [bnd_t b]
          show (if nI (k + i0 * rhN Z so j) = -1 then _ else _) = _
          rw [if_neg (nI_nem (by omega))]
          unfold fX11_together_b49
          dsimp only [lt]
          rw [chk_t (inb_t (by omega) (by decide)), nI_clamp (by omega), hx 1 j (by omega) (by omega), d1, bnd_t (x_leastCommon r1 r2 d2 d3 (by decide)), eR]
          unfold fX11_together_b64
          rw [nI_1]
theorem solZ_dec {j n : Nat} : solZ Z h so j n ∨ ¬ solZ Z h so j n := Classical.em _
theorem m_together_h {S1 : gS} (Zk : tOK Z) (hM : tM Z S1) (hh : S1 99 37 = nI h) (h9 : h ≤ 999) (c0 : S1 99 4 = 0) (fin : ∀ n, 1 ≤ n → solZ Z h so (tn0 Z) n → ∃ m, 1 ≤ m ∧ m ≤ 27720 ∧ solZ Z h so (tn0 Z) m) : Gv (fX12_together_h21 50000 50000 so 1 S1) (fun r => ansT (solZ Z h so (tn0 Z)) r.1 ∧ mSame S1 r.2 ∧ r.2 99 4 = 0) := by
  have z8 := Zk.1.2
  refine loopG (A := Unit) (fun f n _ => fX12_together_h21 50000 f so (nI (n + 1)) S1) (fun n _ => ∀ m, 1 ≤ m → m ≤ n → ¬ solZ Z h so (tn0 Z) m) _ 30000 ?_ ?_ 30000 0 () 50000 (by omega) (fun m m1 m2 => by omega) (by omega)
  · intro f a i1
    refine ⟨(-1, S1), ?_, Or.inr ⟨fun n n1 q => ?_, rfl⟩, mSame.rf, c0⟩
    · show fX12_together_b21 50000 _ so (nI 30001) S1 = _
      unfold fX12_together_b21
      rw [if_pos (by decide)]
      rfl
    · obtain ⟨m, m1, m2, m3⟩ := fin n n1 q
      exact i1 m m1 (by omega) m3
  · intro f n a hn i1
    have inner : ∀ (r : Int32 → Int32 → gS → Option (Int32 × gS)), (solZ Z h so (tn0 Z) (n + 1) → fX12_together_h33 50000 r 50000 so (nI (n + 1)) 1 0 S1 = fX12_together_b86 50000 r so (nI (n + 1)) 1 S1) ∧ (¬ solZ Z h so (tn0 Z) (n + 1) → fX12_together_h33 50000 r 50000 so (nI (n + 1)) 1 0 S1 = fX12_together_b86 50000 r so (nI (n + 1)) 0 S1) := by
      intro r
      suffices L : ∀ (m j fuel : Nat), j + m = tn0 Z → m + 1 < fuel → solZ Z h so j (n + 1) → (solZ Z h so (tn0 Z) (n + 1) → fX12_together_h33 50000 r fuel so (nI (n + 1)) 1 (nI j) S1 = fX12_together_b86 50000 r so (nI (n + 1)) 1 S1) ∧ (¬ solZ Z h so (tn0 Z) (n + 1) → fX12_together_h33 50000 r fuel so (nI (n + 1)) 1 (nI j) S1 = fX12_together_b86 50000 r so (nI (n + 1)) 0 S1) from L (tn0 Z) 0 50000 (by omega) (by omega) (fun k hk => by omega)
      intro m
      induction m with
      | zero =>
        intro j fuel h1 h2 h3
        obtain ⟨g, rfl⟩ : ∃ g, fuel = g + 1 := ⟨fuel - 1, by omega⟩
        have : j = tn0 Z := by omega
        subst this
        refine ⟨fun _ => ?_, fun q => absurd h3 q⟩
        show fX12_together_b33 50000 r _ so (nI (n + 1)) 1 (nI (tn0 Z)) S1 = _
        unfold fX12_together_b33
        rw [hM.1, if_pos (nI_le (Nat.le_refl _) (by omega))]
      | succ m ih =>
        intro j fuel h1 h2 h3
        obtain ⟨g, rfl⟩ : ∃ g, fuel = g + 1 := ⟨fuel - 1, by omega⟩
        have hj : j < tn0 Z := by omega
        obtain ⟨d1, d2, d3, d4, d5⟩ := dp_ok Zk hj
        obtain ⟨m1, m2, -, -⟩ := hM.2.2.2.2.2.2.2.1 j hj
        have hF : fX12_together_h33 50000 r (g + 1) so (nI (n + 1)) 1 (nI j) S1 = if iv (bt so (nI j)) = 0 then fX12_together_b74 50000 r (fX12_together_h33 50000 r g) so (nI (n + 1)) (nI j) S1 else fX12_together_b57 50000 r (fX12_together_h33 50000 r g) so (nI (n + 1)) (nI j) S1 := by
          show fX12_together_b33 50000 r (fX12_together_h33 50000 r g) so (nI (n + 1)) 1 (nI j) S1 = _
          unfold fX12_together_b33
          rw [hM.1, if_neg (nI_ge hj (by omega))]
          unfold fX12_together_b44
          rw [if_neg (by decide)]
          unfold fX12_together_b48
          rw [bnd_t m_isOf]
        have go : solZ Z h so (j + 1) (n + 1) → fX12_together_h33 50000 r (g + 1) so (nI (n + 1)) 1 (nI j) S1 = fX12_together_h33 50000 r g so (nI (n + 1)) 1 (nI (j + 1)) S1 → (solZ Z h so (tn0 Z) (n + 1) → fX12_together_h33 50000 r (g + 1) so (nI (n + 1)) 1 (nI j) S1 = fX12_together_b86 50000 r so (nI (n + 1)) 1 S1) ∧ (¬ solZ Z h so (tn0 Z) (n + 1) → fX12_together_h33 50000 r (g + 1) so (nI (n + 1)) 1 (nI j) S1 = fX12_together_b86 50000 r so (nI (n + 1)) 0 S1) := by
          intro q1 q2
          rw [q2]
          exact ih (j + 1) g (by omega) (by omega) q1
        cases hb : bt so (nI j) with
        | false =>
          refine go (solZ_s.mpr ⟨h3, fun z => by rw [hb] at z; cases z⟩) ?_
          rw [hF, hb]
          show fX12_together_b74 50000 r (fX12_together_h33 50000 r g) so (nI (n + 1)) (nI j) S1 = _
          unfold fX12_together_b74 fX12_together_b79
          rw [nI_1]
        | true =>
          have hF2 : fX12_together_h33 50000 r (g + 1) so (nI (n + 1)) 1 (nI j) S1 = if iv (decide (cmN (h + phZ Z j) (dpZ Z j) (n + 1))) = 0 then fX12_together_b78 50000 r (fX12_together_h33 50000 r g) so (nI (n + 1)) (nI j) S1 else fX12_together_b74 50000 r (fX12_together_h33 50000 r g) so (nI (n + 1)) (nI j) S1 := by
            rw [hF, hb]
            show fX12_together_b57 50000 r (fX12_together_h33 50000 r g) so (nI (n + 1)) (nI j) S1 = _
            unfold fX12_together_b57
            rw [hh, ahead_ix (by omega), bnd_t (m_comesAt z8 hj (m1.trans d1) d2 d3), cm_S (p := phZ Z j) (d := dpZ Z j) (m2.trans d4) (m1.trans d1) d2 (by omega) (by omega) (by omega)]
          by_cases hc : cmN (h + phZ Z j) (dpZ Z j) (n + 1)
          · refine go (solZ_s.mpr ⟨h3, fun _ => hc⟩) ?_
            rw [hF2, decide_eq_true hc]
            show fX12_together_b74 50000 r (fX12_together_h33 50000 r g) so (nI (n + 1)) (nI j) S1 = _
            unfold fX12_together_b74 fX12_together_b79
            rw [nI_1]
          · refine ⟨fun q => absurd (q j hj hb) hc, fun _ => ?_⟩
            obtain ⟨g', rfl⟩ : ∃ g', g = g' + 1 := ⟨g - 1, by omega⟩
            rw [hF2, decide_eq_false hc]
            show fX12_together_b33 50000 r (fX12_together_h33 50000 r g') so (nI (n + 1)) 0 (nI j + 1) S1 = _
            rw [nI_1]
            unfold fX12_together_b33
            rw [hM.1]
            by_cases hl : nI (tn0 Z) ≤ nI (j + 1)
            · rw [if_pos hl]
            · rw [if_neg hl]
              unfold fX12_together_b44
              rw [if_pos rfl]
    have hF : fX12_together_h21 50000 (f + 1) so (nI (n + 1)) S1 = fX12_together_h33 50000 (fX12_together_h21 50000 f) 50000 so (nI (n + 1)) 1 0 S1 := by
      show fX12_together_b21 50000 (fX12_together_h21 50000 f) so (nI (n + 1)) S1 = _
      unfold fX12_together_b21
      rw [if_neg (show ¬ (30000 : Int32) < nI (n + 1) from nI_nlt (a := 30000) (by omega) (by decide))]
      rfl
    obtain ⟨in1, in2⟩ := inner (fX12_together_h21 50000 f)
    rcases solZ_dec (Z := Z) (h := h) (so := so) (j := tn0 Z) (n := n + 1) with q | q
    · refine Or.inl ⟨(nI (n + 1), S1), ?_, Or.inl ⟨n + 1, by omega, ?_, q, fun m m1 m2 => i1 m m1 (by omega), rfl⟩, mSame.rf, c0⟩
      · show fX12_together_h21 50000 (f + 1) so (nI (n + 1)) S1 = _
        rw [hF, in1 q]
        rfl
      · obtain ⟨m, m1, m2, m3⟩ := fin (n + 1) (by omega) q
        refine Nat.le_of_not_lt (fun z => i1 m m1 (by omega) m3)
    · refine Or.inr ⟨(), fun m m1 m2 => ?_, ?_⟩
      · by_cases hm : m = n + 1
        · rw [hm]; exact q
        · exact i1 m m1 (by omega)
      · show fX12_together_h21 50000 (f + 1) so (nI (n + 1)) S1 = _
        rw [hF, in2 q]
        show fX12_together_b92 50000 (fX12_together_h21 50000 f) so (nI (n + 1)) S1 = _
        unfold fX12_together_b92
        rw [nI_1]
end
theorem st_together : Lw_together JJ := by
  intro SX SM x1 hJ
  obtain ⟨S1, Z, h, qs, hS1, c0, hJ1, Zk, h9, C, M, K, w41, x0, x5⟩ := pre hJ
  have z8 := Zk.1.2
  have hF : fX12_together 50000 x1 SM = if iv (inb x1 (2 ^ tn0 Z)) = 0 then fX12_together_b13 50000 S1 else fX12_together_b19 50000 x1 S1 := by
    unfold fX12_together fX12_together_b0
    dsimp only [lt]
    rw [← hS1, bnd_t (m_isSome M.1.1 z8)]
  cases h1 : inb x1 (2 ^ tn0 Z) with
  | false =>
    refine stFl 50000 50000 2 hJ two_ne (Or.inr rfl) ?_ ?_
    · show fX11_together_b0 50000 x1 SX = _
      unfold fX11_together_b0
      rw [bnx_x (x_needGrottoes x0 z8) (by rw [h1]; exact two_ne), h1]
      rfl
    · show fX12_together 50000 x1 SM = _
      rw [hF, h1, ← hS1]
      rfl
  | true =>
  have hX := x_together_h (so := x1) Zk C.1 C.2.1 h9
  have fin : ∀ n, 1 ≤ n → solZ Z h x1 (tn0 Z) n → ∃ m, 1 ≤ m ∧ m ≤ 27720 ∧ solZ Z h x1 (tn0 Z) m := by
    intro n n1 q
    obtain ⟨r, -, -, hr, -⟩ := hX
    rcases hr with ⟨k, a1, a2, a3, -⟩ | ⟨a1, -⟩
    · exact ⟨k, a1, a2, a3⟩
    · exact absurd q (a1 n n1)
  refine stSr 50000 50000 (ansT (solZ Z h x1 (tn0 Z))) ansT.u hJ rfl (Or.inl rfl) ?_ ?_
  · have e : fX11_together 50000 x1 SX = fX11_together_h12 50000 50000 x1 1 1 0 SX := by
      show fX11_together_b0 50000 x1 SX = _
      unfold fX11_together_b0
      rw [bnx_t (x_needGrottoes x0 z8) (by rw [h1]; rfl)]
    show Gv (fX11_together 50000 x1 SX) _
    rw [e]
    exact hX
  · have e : fX12_together 50000 x1 SM = fX12_together_h21 50000 50000 x1 1 S1 := by
      rw [hF, h1]
      rfl
    show Gv (fX12_together 50000 x1 SM) _
    rw [e, ← hS1]
    exact m_together_h Zk M.1 M.2.2.1 h9 c0 fin
