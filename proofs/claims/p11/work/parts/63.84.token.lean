/-! tokens: both sides go over the same bytes -/
noncomputable def kd (b : Nat) : Nat := if b = 32 then 5 else if b = 10 then 5 else if 97 ≤ b ∧ b ≤ 122 then 1 else if 48 ≤ b ∧ b ≤ 57 then 2 else if b = 59 ∨ b = 40 ∨ b = 41 ∨ b = 43 ∨ b = 45 ∨ b = 42 ∨ b = 47 ∨ b = 60 ∨ b = 61 then 3 else 4
theorem kd_x : ∀ b, b < 256 → (if nI b = 32 then (5 : Int32) else if nI b = 10 then 5 else if (nI b < 97 ∨ 122 < nI b) then (if (nI b < 48 ∨ 57 < nI b) then (if kd b = 3 then 3 else 4) else 2) else 1) = nI (kd b) ∧ ((Int32.toUInt32 (nI b) % 65536).toInt32) = nI b ∧ kd b ≤ 5 ∧ 1 ≤ kd b := by decide +kernel
theorem x_at {N j : Nat} {S : gS} (h : j < 700) : fX8_at N (nI j) S = some (S 3 j &&& 255, S) := by
  unfold fX8_at fX8_at_b0
  rw [if_neg (nI_pos (by omega))]
  unfold fX8_at_b4
  rw [if_neg (show ¬ (700 : Int32) ≤ nI j from nI_ge (b := 700) h (by decide))]
  unfold fX8_at_b13
  rw [chk_t (inb_t h (by decide)), nI_clamp (by omega)]
  rfl
theorem ixc_h {N : Nat} {S : gS} {x : Int32} : ∀ (m j f : Nat), j + m = 9 → m < f → ∃ r, fJ1_indexOfChar_4cfef_h7 N f 1 9 x (nI j) S = some (r, S) ∧ (r < 0 ↔ ∀ i, j ≤ i → i < 9 → ¬ sByt 1 i = x) := by
  intro m
  induction m with
  | zero =>
    intro j f h hf
    obtain ⟨f, rfl⟩ : ∃ f', f = f' + 1 := ⟨f - 1, by omega⟩
    obtain rfl : j = 9 := by omega
    refine ⟨-1, ?_, ⟨fun _ i a b => absurd a (by omega), fun _ => by decide⟩⟩
    show fJ1_indexOfChar_4cfef_b7 N _ 1 9 x (nI 9) S = _
    unfold fJ1_indexOfChar_4cfef_b7
    rw [if_pos (by decide)]
    rfl
  | succ m ih =>
    intro j f h hf
    obtain ⟨f, rfl⟩ : ∃ f', f = f' + 1 := ⟨f - 1, by omega⟩
    have hF : fJ1_indexOfChar_4cfef_h7 N (f + 1) 1 9 x (nI j) S = if sByt 1 j = x then some (nI j, S) else fJ1_indexOfChar_4cfef_h7 N f 1 9 x (nI (j + 1)) S := by
      show fJ1_indexOfChar_4cfef_b7 N (fJ1_indexOfChar_4cfef_h7 N f) 1 9 x (nI j) S = _
      unfold fJ1_indexOfChar_4cfef_b7
      rw [if_neg (show ¬ (9 : Int32) ≤ nI j from nI_ge (b := 9) (by omega) (by decide))]
      unfold fJ1_indexOfChar_4cfef_b13
      rw [chk_t (show inb (nI j) (sLen 1) = true from inb_t (show j < 9 by omega) (by decide)), nI_clamp (by omega)]
      unfold fJ1_indexOfChar_4cfef_b25
      rw [nI_1 j]
      rfl
    rw [hF]
    by_cases q : sByt 1 j = x
    · rw [if_pos q]
      exact ⟨nI j, rfl, ⟨fun z => absurd z (nI_pos (by omega)), fun z => absurd q (z j (Nat.le_refl _) (by omega))⟩⟩
    · rw [if_neg q]
      obtain ⟨r, r1, r2⟩ := ih (j + 1) f (by omega) (by omega)
      refine ⟨r, r1, r2.trans ⟨fun z i a b => ?_, fun z i a b => z i (by omega) b⟩⟩
      by_cases e : i = j
      · rw [e]; exact q
      · exact z i (by omega) b
theorem mk_all : ∀ b, b < 256 → ((∀ i, i < 9 → ¬ sByt 1 i = (Int32.toInt8 (nI b)).toInt32) ↔ ¬ kd b = 3) := by decide +kernel
theorem ch_all : ∀ w, w < 45 → ∀ i, i < sLen w → (Int32.toUInt32 ((sByt w i) &&& 255) % 65536).toInt32 = sByt w i ∧ nc (sByt w i) = true ∧ sLen w < 100 := by decide +kernel
theorem j_charAt {N w i : Nat} {S : gS} (hw : w < 45) (hi : i < sLen w) : fJ0_charAt_5068e N w (nI i) S = some (sByt w i, S) := by
  obtain ⟨c1, c2, c3⟩ := ch_all w hw i hi
  have ci : fJ0_checkIndex_df160 N (nI i) (Int32.ofNat (sLen w)) S = some (0, S) := by
    unfold fJ0_checkIndex_df160 fJ0_checkIndex_df160_b0 fJ3_checkIndex_8e157 fJ3_checkIndex_8e157_b0
    rw [if_neg (nI_pos (by omega))]
    unfold fJ3_checkIndex_8e157_b4
    rw [if_pos (show nI i < Int32.ofNat (sLen w) from nI_lt (b := sLen w) hi (by omega))]
    rfl
  unfold fJ0_charAt_5068e fJ0_charAt_5068e_b0
  show fJ0_charAt_5068e_b7 N w (nI i) S = _
  unfold fJ0_charAt_5068e_b7 fJ1_charAt_3b067 fJ1_charAt_3b067_b0
  rw [bnd_t ci, chk_t (inb_t hi (by omega)), nI_clamp (by omega), c1, chk_t c2]
  show chk (nc (sByt w i)) _ = _
  rw [chk_t c2]
theorem j_length {N w : Nat} {S : gS} (hw : w < 45) : fJ0_length_8abf5 N w S = some (nI (sLen w), S) := by
  have : ∀ w, w < 45 → (Int32.ofNat (sLen w)) >>> ((0 : Int32) &&& 31) = nI (sLen w) := by decide +kernel
  unfold fJ0_length_8abf5 fJ0_length_8abf5_b0
  show some ((Int32.ofNat (sLen w)) >>> ((0 : Int32) &&& 31), S) = _
  rw [this w hw]
theorem x_kindOf {N b : Nat} {S : gS} (hb : b < 256) (hN : 10 < N) : fX8_kindOf N (nI b) S = some (nI (kd b), S) := by
  obtain ⟨k1, k2, k3⟩ := kd_x b hb
  have ix : ∃ r, fJ0_indexOf_0f7a4 N 1 (nI b) S = some (r, S) ∧ (r < 0 ↔ ¬ kd b = 3) := by
    obtain ⟨r, r1, r2⟩ := ixc_h (N := N) (S := S) (x := (Int32.toInt8 (nI b)).toInt32) 9 0 N (by omega) (by omega)
    have r2 : r < 0 ↔ ¬ kd b = 3 := r2.trans ((show (∀ i, 0 ≤ i → i < 9 → ¬ sByt 1 i = (Int32.toInt8 (nI b)).toInt32) ↔ (∀ i, i < 9 → ¬ sByt 1 i = (Int32.toInt8 (nI b)).toInt32) from ⟨fun z i => z i (Nat.zero_le _), fun z i _ => z i⟩).trans (mk_all b hb))
    refine ⟨r, ?_, r2⟩
    have ce : fJ1_canEncode_9a6ad N (nI b) S = some (1, S) := by
      unfold fJ1_canEncode_9a6ad fJ1_canEncode_9a6ad_b0
      rw [if_neg (nI_pos (by omega))]
      unfold fJ1_canEncode_9a6ad_b4
      rw [if_neg (show ¬ (255 : Int32) < nI b from nI_nlt (a := 255) (by omega) (by decide))]
      rfl
    have e1 : fJ1_indexOf_4cfef N 1 (nI b) 0 9 S = some (r, S) := by
      unfold fJ1_indexOf_4cfef fJ1_indexOf_4cfef_b0
      rw [bnd_t ce]
      show fJ1_indexOf_4cfef_b29 N 1 (nI b) 0 9 S = _
      unfold fJ1_indexOf_4cfef_b29 fJ1_indexOfChar_4cfef fJ1_indexOfChar_4cfef_b0
      rw [bnd_t (show fJ1_indexOfChar_4cfef_h7 N N 1 9 (nI b).toInt8.toInt32 0 S = some (r, S) from r1)]
    unfold fJ0_indexOf_0f7a4 fJ0_indexOf_0f7a4_b0 fJ0_indexOf_7cf53 fJ0_indexOf_7cf53_b0
    rw [bnd_t (show bnd (fJ0_isLatin1_aae02 N 1 S) (fun q1 => if q1.1 = 0 then fJ0_indexOf_7cf53_b23 N q1.2 else fJ0_indexOf_7cf53_b7 N 1 (nI b) 0 q1.2) = some (r, S) from ?_)]
    show fJ0_indexOf_7cf53_b7 N 1 (nI b) 0 S = _
    unfold fJ0_indexOf_7cf53_b7
    rw [bnd_t (show fJ0_length_8abf5 N 1 S = some (9, S) by rw [j_length (by decide), show nI (sLen 1) = 9 by decide]), bnd_t e1]
    rfl
  obtain ⟨r, r1, r2⟩ := ix
  have b42 : fX8_kindOf_b42 N (nI b) S = some ((if kd b = 3 then 3 else 4), S) := by
    unfold fX8_kindOf_b42
    rw [k2, bnd_t r1]
    by_cases q : kd b = 3
    · rw [if_pos q, if_neg (fun z => absurd q (r2.mp z))]
      rfl
    · rw [if_neg q, if_pos (r2.mpr q)]
      rfl
  rw [← k1]
  unfold fX8_kindOf fX8_kindOf_b0
  by_cases h1 : nI b = 32
  · rw [if_pos h1, if_pos h1]; rfl
  · rw [if_neg h1, if_neg h1]
    unfold fX8_kindOf_b6
    by_cases h2 : nI b = 10
    · rw [if_pos h2, if_pos h2]; rfl
    · rw [if_neg h2, if_neg h2]
      have b28 : fX8_kindOf_b28 N (nI b) S = some ((if (nI b < 48 ∨ 57 < nI b) then (if kd b = 3 then 3 else 4) else 2), S) := by
        unfold fX8_kindOf_b28
        by_cases h4 : nI b < 48
        · rw [if_pos h4, if_pos (Or.inl h4)]; exact b42
        · rw [if_neg h4]
          unfold fX8_kindOf_b34
          by_cases h5 : 57 < nI b
          · rw [if_pos h5, if_pos (Or.inr h5)]; exact b42
          · rw [if_neg h5, if_neg (fun z => z.elim h4 h5)]; rfl
      unfold fX8_kindOf_b14
      by_cases h3 : nI b < 97
      · rw [if_pos h3, if_pos (Or.inl h3)]; exact b28
      · rw [if_neg h3]
        unfold fX8_kindOf_b20
        by_cases h6 : 122 < nI b
        · rw [if_pos h6, if_pos (Or.inr h6)]; exact b28
        · rw [if_neg h6, if_neg (fun z => z.elim h3 h6)]; rfl
