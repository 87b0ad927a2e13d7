/-! bits (some rows begun from the kit's family of bits, under other names), and what drips -/
noncomputable def bb (x : Int32) (i : Nat) : Bool := x.toBitVec.getLsbD i
theorem bb_ext {x y : Int32} (h : ∀ i, i < 32 → bb x i = bb y i) : x = y := Int32.toBitVec_inj.mp (BitVec.eq_of_getLsbD_eq (fun i hi => h i hi))
theorem bb_or (x y : Int32) (i : Nat) : bb (x ||| y) i = (bb x i || bb y i) := by unfold bb; rw [Int32.toBitVec_or, BitVec.getLsbD_or]
theorem bb_and (x y : Int32) (i : Nat) : bb (x &&& y) i = (bb x i && bb y i) := by unfold bb; rw [Int32.toBitVec_and, BitVec.getLsbD_and]
theorem bb_xor (x y : Int32) (i : Nat) : bb (x ^^^ y) i = (bb x i ^^ bb y i) := by unfold bb; rw [Int32.toBitVec_xor, BitVec.getLsbD_xor]
theorem bb_sl : ∀ n, n < 32 → ((nI n &&& 31).toBitVec.smod 32).toNat = n := by decide +kernel
theorem bb_one : ∀ i, i < 32 → bb 1 i = decide (i = 0) := by decide +kernel
theorem bb_m1 : ∀ i, i < 32 → bb (-1) i = true := by decide +kernel
theorem bb_0 (i : Nat) : bb 0 i = false := by
  unfold bb
  exact BitVec.getLsbD_zero
theorem bb_pow : ∀ n, n < 32 → ∀ i, i < 32 → bb ((1 : Int32) <<< (nI n &&& 31)) i = decide (i = n) := by decide +kernel
theorem bb_sshr (n : Nat) (hn : n < 32) (x : Int32) {i : Nat} (hi : i < 32) : bb (x >>> (nI n &&& 31)) i = if n + i < 32 then bb x (n + i) else bb x 31 := by
  unfold bb
  rw [Int32.toBitVec_shiftRight]
  show (x.toBitVec.sshiftRight ((nI n &&& 31).toBitVec.smod 32).toNat).getLsbD i = _
  rw [bb_sl n hn, BitVec.getLsbD_sshiftRight, BitVec.msb_eq_getLsbD_last]
  simp [hi]
theorem bt_bb {x : Int32} {k : Nat} (hk : k < 32) : bt x (nI k) = bb x k := by
  have h0 : bb ((x >>> (nI k &&& 31)) &&& 1) 0 = bb x k := by
    rw [bb_and, bb_one 0 (by decide), bb_sshr k hk x (by decide), if_pos (by omega)]
    simp
  unfold bt
  rcases and1 (x >>> (nI k &&& 31)) with h | h
  · rw [h] at h0 ⊢
    rw [← h0, bb_0, decide_eq_false (fun q => q rfl)]
  · rw [h] at h0 ⊢
    rw [← h0, decide_eq_true (by decide)]
    rfl
theorem pow_nd {dr : Int32} {k : Nat} (hk : k < 32) : ((1 : Int32) <<< (nI k &&& 31)) &&& (dr ^^^ (-1)) = if bt dr (nI k) = true then 0 else (1 : Int32) <<< (nI k &&& 31) := by
  rw [bt_bb hk]
  refine bb_ext (fun i hi => ?_)
  rw [bb_and, bb_xor, bb_m1 i hi, bb_pow k hk i hi]
  by_cases h : i = k
  · subst h
    cases hb : bb dr i with
    | true => rw [if_pos rfl, bb_0]; simp
    | false => rw [if_neg (by decide), bb_pow i hk i hi]; simp
  · rw [decide_eq_false h, Bool.false_and]
    cases hb : bb dr k with
    | true => rw [if_pos rfl, bb_0]
    | false => rw [if_neg (by decide), bb_pow k hk i hi, decide_eq_false h]
theorem or_and_d (a b c : Int32) : (a ||| b) &&& c = (a &&& c) ||| (b &&& c) := by
  refine bb_ext (fun i hi => ?_)
  rw [bb_and, bb_or, bb_or, bb_and, bb_and, Bool.and_or_distrib_right]
/-- the bits of those with c -/
noncomputable def drB (c : Nat → Bool) : Nat → Nat → Int32 → Int32
  | 0, _, acc => acc
  | m + 1, k, acc => drB c m (k + 1) (if c k = true then acc ||| ((1 : Int32) <<< (nI k &&& 31)) else acc)
theorem drB_eq {c c' : Nat → Bool} : ∀ (m k : Nat) (acc : Int32), (∀ i, k ≤ i → i < k + m → c i = c' i) → drB c m k acc = drB c' m k acc := by
  intro m
  induction m with
  | zero => intro k acc h; rfl
  | succ m ih =>
    intro k acc h
    show drB c m (k + 1) _ = drB c' m (k + 1) _
    rw [h k (Nat.le_refl _) (by omega)]
    exact ih (k + 1) _ (fun i h1 h2 => h i (by omega) (by omega))
theorem drB_no {c : Nat → Bool} : ∀ (m k : Nat) (acc : Int32), (∀ i, k ≤ i → i < k + m → c i = false) → drB c m k acc = acc := by
  intro m
  induction m with
  | zero => intro k acc h; rfl
  | succ m ih =>
    intro k acc h
    show drB c m (k + 1) (if c k = true then _ else acc) = acc
    rw [h k (Nat.le_refl _) (by omega), if_neg (by decide)]
    exact ih (k + 1) _ (fun i h1 h2 => h i (by omega) (by omega))
theorem drB_nd {c : Nat → Bool} {dr : Int32} : ∀ (m k : Nat) (acc : Int32), k + m ≤ 32 → drB c m k acc &&& (dr ^^^ (-1)) = drB (fun i => !bt dr (nI i) && c i) m k (acc &&& (dr ^^^ (-1))) := by
  intro m
  induction m with
  | zero => intro k acc h; rfl
  | succ m ih =>
    intro k acc h
    show drB c m (k + 1) _ &&& _ = drB _ m (k + 1) _
    rw [ih (k + 1) _ (by omega)]
    congr 1
    show ((if c k = true then acc ||| ((1 : Int32) <<< (nI k &&& 31)) else acc) &&& (dr ^^^ (-1))) = if (!bt dr (nI k) && c k) = true then (acc &&& (dr ^^^ (-1))) ||| ((1 : Int32) <<< (nI k &&& 31)) else acc &&& (dr ^^^ (-1))
    by_cases hc : c k = true
    · rw [if_pos hc, or_and_d, pow_nd (by omega)]
      by_cases hb : bt dr (nI k) = true
      · rw [if_pos hb, Int32.or_zero, if_neg (by rw [hb]; simp)]
      · rw [if_neg hb, if_pos (by rw [hc]; simpa using hb)]
    · rw [if_neg hc, if_neg (by simp [hc])]
noncomputable def cmS (ph dr h : Int32) : Bool := decide ((h + ph) - (h + ph) / dr * dr = 0)
theorem x_comesRound {N T n k d : Nat} {S : gS} {h : Int32} (h0 : S T 0 = nI n) (hn : n ≤ 8) (hk : k < n) (hd : S (T + 1) k = nI d) (hd1 : 1 ≤ d) (hd2 : d ≤ 12) : fX9_comesRound N T (nI k) h S = some (iv (cmS (S (T + 2) k) (S (T + 1) k) h), S) := by
  unfold fX9_comesRound fX9_comesRound_b0
  rw [bnd_t (x_isGrotto h0 (by omega)), inb_t hk (by omega)]
  show fX9_comesRound_b8 N T (nI k) h S = _
  unfold fX9_comesRound_b8
  rw [chk_t (inb_t (by omega) (by decide)), nI_clamp (by omega), hd, if_neg (show ¬ nI d < 1 from nI_nlt (a := d) (b := 1) hd1 (by omega))]
  unfold fX9_comesRound_b18
  rw [chk_t (inb_t (by omega) (by decide)), chk_t (inb_t (by omega) (by decide)), nI_clamp (by omega), hd, chk_t (nz_t (by omega) (by omega))]
  unfold cmS
  by_cases h1 : (h + S (T + 2) k) - (h + S (T + 2) k) / nI d * nI d = 0
  · rw [if_pos h1, decide_eq_true h1]
    rfl
  · rw [if_neg h1, decide_eq_false h1]
    rfl
noncomputable def drS (ph dr h w : Int32) (b : Bool) : Bool := decide (¬ w = 0) && (!b && cmS ph dr h)
theorem x_drips {N T n k d : Nat} {S : gS} {h w dr : Int32} (h0 : S T 0 = nI n) (hn : n ≤ 8) (hk : k < n) (hd : S (T + 1) k = nI d) (hd1 : 1 ≤ d) (hd2 : d ≤ 12) : fX9_drips N T (nI k) h w dr S = some (iv (drS (S (T + 2) k) (S (T + 1) k) h w (bt dr (nI k))), S) := by
  unfold fX9_drips fX9_drips_b0 drS
  by_cases hw : w = 0
  · rw [if_pos hw, decide_eq_false (fun q => q hw)]
    rfl
  · rw [if_neg hw, decide_eq_true hw]
    unfold fX9_drips_b4
    rw [bnd_t x_isOneOf]
    cases hb : bt dr (nI k) with
    | true => rfl
    | false =>
      show fX9_drips_b13 N T (nI k) h S = _
      unfold fX9_drips_b13
      rw [bnd_t (x_comesRound h0 hn hk hd hd1 hd2)]
      cases cmS (S (T + 2) k) (S (T + 1) k) h <;> rfl
theorem m_comesAt {N n k d : Nat} {S : gS} {h : Int32} (hn : n ≤ 8) (hk : k < n) (hd : S 7 k = nI d) (hd1 : 1 ≤ d) (hd2 : d ≤ 12) : fX12_comesAt N (nI k) h S = some (iv (cmS (S 8 k) (S 7 k) h), S) := by
  unfold fX12_comesAt fX12_comesAt_b0
  rw [chk_t (inb_t (by omega) (by decide)), chk_t (inb_t (by omega) (by decide)), nI_clamp (by omega), hd, chk_t (nz_t (by omega) (by omega))]
  unfold cmS
  by_cases h1 : (h + S 8 k) - (h + S 8 k) / nI d * nI d = 0
  · rw [if_pos h1, decide_eq_true h1]
    rfl
  · rw [if_neg h1, decide_eq_false h1]
    rfl
theorem m_drip_h {N n : Nat} {S : gS} {v : Int32} (h0 : S 5 0 = nI n) (hn : n ≤ 8) (hd : ∀ k, k < n → ∃ d : Nat, 1 ≤ d ∧ d ≤ 12 ∧ S 7 k = nI d) (hv : fX12_wetOf N S = some (v, S)) (hp : ¬ v ≤ 0) : ∀ (m k : Nat) (acc : Int32) (fuel : Nat), k + m = n → m < fuel → fX12_drippingNow_h4 N fuel acc (nI k) S = some (drB (fun i => cmS (S 8 i) (S 7 i) (S 99 37)) m k acc &&& (S 99 38 ^^^ (-1)), S) := by
  intro m
  induction m with
  | zero =>
    intro k acc fuel h1 h2
    obtain ⟨f, rfl⟩ : ∃ f, fuel = f + 1 := ⟨fuel - 1, by omega⟩
    show fX12_drippingNow_b4 N _ acc (nI k) S = _
    unfold fX12_drippingNow_b4
    rw [h0, if_pos (nI_le (by omega) (by omega))]
    rfl
  | succ m ih =>
    intro k acc fuel h1 h2
    obtain ⟨f, rfl⟩ : ∃ f, fuel = f + 1 := ⟨fuel - 1, by omega⟩
    obtain ⟨d, d1, d2, d3⟩ := hd k (by omega)
    show fX12_drippingNow_b4 N (fX12_drippingNow_h4 N f) acc (nI k) S = _
    unfold fX12_drippingNow_b4
    rw [h0, if_neg (nI_ge (by omega) (by omega))]
    unfold fX12_drippingNow_b14
    rw [bnd_t hv]
    show (if v ≤ 0 then _ else _) = _
    rw [if_neg hp]
    unfold fX12_drippingNow_b21
    rw [bnd_t (m_comesAt hn (by omega) d3 d1 d2)]
    show _ = some (drB (fun i => cmS (S 8 i) (S 7 i) (S 99 37)) m (k + 1) (if cmS (S 8 k) (S 7 k) (S 99 37) = true then acc ||| ((1 : Int32) <<< (nI k &&& 31)) else acc) &&& _, S)
    by_cases hc : cmS (S 8 k) (S 7 k) (S 99 37) = true
    · rw [if_pos hc, hc]
      show fX12_drippingNow_b34 N (fX12_drippingNow_h4 N f) (nI k) acc S = _
      unfold fX12_drippingNow_b34 fX12_drippingNow_b41
      rw [nI_1]
      exact ih (k + 1) _ f (by omega) (by omega)
    · rw [if_neg hc, Bool.not_eq_true _ |>.mp hc]
      show fX12_drippingNow_b40 N (fX12_drippingNow_h4 N f) (nI k) acc S = _
      unfold fX12_drippingNow_b40 fX12_drippingNow_b41
      rw [nI_1, Int32.or_zero]
      exact ih (k + 1) _ f (by omega) (by omega)
/-- what drips in the HOUR that is told: as bits -/
theorem m_drippingNow {N n : Nat} {S : gS} {v : Int32} (h0 : S 5 0 = nI n) (hn : n ≤ 8) (hd : ∀ k, k < n → ∃ d : Nat, 1 ≤ d ∧ d ≤ 12 ∧ S 7 k = nI d) (hv : fX12_wetOf N S = some (v, S)) (hv0 : 0 ≤ v) (hN : 8 < N) : fX12_drippingNow N S = some (drB (fun i => drS (S 8 i) (S 7 i) (S 99 37) v (bt (S 99 38) (nI i))) n 0 0, S) := by
  unfold fX12_drippingNow fX12_drippingNow_b0
  by_cases hp : v ≤ 0
  · have hz : v = 0 := Int32.le_antisymm hp hv0
    rw [drB_no n 0 0 (fun i _ _ => by unfold drS; rw [decide_eq_false (fun q => q hz)]; rfl)]
    obtain ⟨f, rfl⟩ : ∃ f, N = f + 1 := ⟨N - 1, by omega⟩
    show fX12_drippingNow_b4 (f + 1) _ 0 0 S = _
    unfold fX12_drippingNow_b4
    by_cases hn0 : n = 0
    · subst hn0
      rw [h0, if_pos (show nI 0 ≤ 0 by decide)]
      unfold fX12_drippingNow_b49
      rw [Int32.zero_and]
    · rw [h0, if_neg (nI_nle (by omega) (by omega))]
      unfold fX12_drippingNow_b14
      rw [bnd_t hv]
      show (if v ≤ 0 then _ else _) = _
      rw [if_pos hp]
      unfold fX12_drippingNow_b49
      rw [Int32.zero_and]
  · have h := m_drip_h (N := N) h0 hn hd hv hp n 0 0 N (by omega) (by omega)
    rw [drB_nd n 0 0 (by omega), Int32.zero_and] at h
    rw [show (0 : Int32) = nI 0 from rfl] at h ⊢
    rw [h]
    congr 2
    refine drB_eq n 0 _ (fun i _ _ => ?_)
    unfold drS
    have hv9 : ¬ v = 0 := fun q => hp (by rw [q]; decide)
    rw [decide_eq_true hv9]
    rfl
