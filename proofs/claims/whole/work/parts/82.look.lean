theorem dv10 : ∀ f, f < 60 → nI f / 10 = nI (f / 10) ∧ nI f - nI (f / 10) * 10 = nI (f % 10) := by decide +kernel
theorem pc_pos : ∀ x, x < 256 → 0 < x → 1 ≤ pcN x := by decide +kernel
theorem fI_lt {c : Nat → Bool} {i : Nat} : ∀ m, m ≤ 60 → i < cntB c m → fI c i < m := by
  intro m
  induction m with
  | zero => intro _ h; exact absurd h (Nat.not_lt_zero _)
  | succ m ih =>
    intro hm h
    have e : cntB c (m + 1) = cntB c m + if c m = true then 1 else 0 := rfl
    by_cases q : i < cntB c m
    · have := ih (by omega) q
      omega
    · by_cases hc : c m = true
      · rw [if_pos hc] at e
        have hi : i = cntB c m := by omega
        rw [hi, fI_at (by omega) hc]
        omega
      · rw [if_neg hc] at e
        omega
/-- the first hour behind which the most is unlike -/
def bsN (u : Nat → Nat) : Nat → Nat
  | 0 => 0
  | k + 1 => if k = 0 then 1 else if u (k + 1) ≤ u (bsN u k) then bsN u k else k + 1
theorem bsN_le {u : Nat → Nat} : ∀ k, bsN u k ≤ k ∧ (0 < k → 1 ≤ bsN u k) := by
  intro k
  induction k with
  | zero => exact ⟨Nat.le_refl _, fun h => absurd h (by omega)⟩
  | succ k ih =>
    have e : bsN u (k + 1) = if k = 0 then 1 else if u (k + 1) ≤ u (bsN u k) then bsN u k else k + 1 := rfl
    by_cases h0 : k = 0
    · rw [if_pos h0] at e; omega
    · rw [if_neg h0] at e
      by_cases h1 : u (k + 1) ≤ u (bsN u k)
      · rw [if_pos h1] at e; omega
      · rw [if_neg h1] at e; omega
section
variable {Z S S1 S3 : gS} {d : Int32} {h n c : Nat} {qs : Nat → qT} {F : Nat → Bool}
def unN (Z : gS) (d : Int32) (h : Nat) (qs : Nat → qT) (F : Nat → Bool) (c t : Nat) : Nat := pcN (orN (fun i => wsN Z d h qs (fI F i) t) c)
theorem un_ok {t : Nat} (Zk : tOK Z) : orN (fun i => wsN Z d h qs (fI F i) t) c < 256 ∧ unN Z d h qs F c t ≤ 8 ∧ bcV (nI (orN (fun i => wsN Z d h qs (fI F i) t) c)) = nI (unN Z d h qs F c t) ∧ (0 < c → 1 ≤ unN Z d h qs F c t) := by
  have hl := orN_lt (w := fun i => wsN Z d h qs (fI F i) t) c (fun i _ => wsN_lt Zk)
  refine ⟨hl, (pc_all _ hl).2, (pc_all _ hl).1, fun hc => pc_pos _ hl ?_⟩
  obtain ⟨c', rfl⟩ : ∃ c', c = c' + 1 := ⟨c - 1, by omega⟩
  show 0 < orN _ c' ||| 2 ^ _
  refine Nat.pos_of_ne_zero (fun q => ?_)
  have := (Nat.or_eq_zero_iff.mp q).2
  exact absurd this (Nat.pos_iff_ne_zero.mp (Nat.pow_pos (by decide)))
theorem x_unlike {t : Nat} (Zk : tOK Z) (ht : 1 ≤ t ∧ t ≤ 20) (R : ∀ t, 1 ≤ t → t ≤ 20 → S 71 t = nI (orN (fun i => wsN Z d h qs (fI F i) t) c)) : fX2_unlikeBehind 5000 (nI t) S = some (nI (unN Z d h qs F c t), S) := by
  unfold fX2_unlikeBehind fX2_unlikeBehind_b0
  rw [if_neg (nI_pos (by omega))]
  unfold fX2_unlikeBehind_b4
  rw [if_neg (show ¬ (21 : Int32) ≤ nI t from nI_ge (b := 21) (by omega) (by decide))]
  unfold fX2_unlikeBehind_b13
  rw [chk_t (inb_t (by omega) (by decide)), nI_clamp (n := t) (by omega), R t ht.1 ht.2, bnd_t x_bitCount, (un_ok Zk).2.2.1]
  rfl
theorem x_bestLook (Zk : tOK Z) (hc : c ≤ 60) (h3 : S 62 3 = nI c) (R : ∀ t, 1 ≤ t → t ≤ 20 → S 71 t = nI (orN (fun i => wsN Z d h qs (fI F i) t) c)) : fX2_bestLook 5000 S = some (if c = 0 then -1 else nI (bsN (unN Z d h qs F c) 20), S) := by
  have main : Gv (fX2_bestLook_h4 5000 5000 (-1) 1 S) (fun r => r = ((if c = 0 then -1 else nI (bsN (unN Z d h qs F c) 20)), S)) := by
    refine loopG (A := Int32) (fun f k x => fX2_bestLook_h4 5000 f x (nI (k + 1)) S) (fun k x => x = if k = 0 then -1 else nI (bsN (unN Z d h qs F c) k)) _ 20 ?_ ?_ 20 0 (-1) 5000 (by omega) rfl (by omega) |> fun z => ?_
  sorry
  sorry
end
