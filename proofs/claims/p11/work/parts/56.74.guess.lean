/-! a guess of one greed: a pure picture -/
noncomputable def alB (c : Nat → Bool) : Nat → Bool
  | 0 => true
  | n + 1 => alB c n && c n
theorem alB_t {c : Nat → Bool} : ∀ n, alB c n = true ↔ ∀ i, i < n → c i = true := by
  intro n
  induction n with
  | zero => exact ⟨fun _ i h => absurd h (by omega), fun _ => rfl⟩
  | succ n ih =>
    show (alB c n && c n) = true ↔ _
    rw [Bool.and_eq_true, ih]
    refine ⟨fun h i hi => ?_, fun h => ⟨fun i hi => h i (by omega), h n (by omega)⟩⟩
    by_cases q : i = n
    · rw [q]; exact h.2
    · exact h.1 i (by omega)
theorem alB_f {c : Nat → Bool} {n i : Nat} (hi : i < n) (h : c i = false) : alB c n = false := by
  cases q : alB c n with
  | false => rfl
  | true =>
    have := (alB_t n).mp q i hi
    rw [h] at this
    cases this
noncomputable def upE (e : Nat → Int32) (g : Nat) (x : Int32) : Nat → Int32 := fun i => if i = g then x else e i
/-- what is SEEN: who, when, which sin -/
def seX (n : Nat) (wh wn : Nat → Nat) (sn : Nat → Int32) (S : gS) : Prop := S 28 3 = nI n ∧ ∀ i, i < n → S 29 i = nI (wh i) ∧ S 30 i = nI (wn i) ∧ S 31 i = sn i
def seM (n : Nat) (wh wn : Nat → Nat) (sn : Nat → Int32) (S : gS) : Prop := S 99 40 = nI n ∧ ∀ i, i < n → S 48 i = nI (wh i) ∧ S 49 i = nI (wn i) ∧ S 50 i = sn i
def seK (Z : gS) (n : Nat) (wh wn : Nat → Nat) : Prop := n ≤ 8 ∧ ∀ i, i < n → wh i < tn1 Z ∧ wn i ≤ 20
noncomputable def suB (n : Nat) (wh wn : Nat → Nat) (sn : Nat → Int32) (R : Nat → Int32) (g : Nat) : Bool := alB (fun i => !(decide (wh i = g)) || decide (R (wn i) = sn i)) n
noncomputable def sq (Z : gS) (d : Int32) (h : Nat) (qs : Nat → qT) (e : Int32) (g t : Nat) : Int32 := (trj Z e d (wetZ Z) h (qs g) t).1
noncomputable def asB (Z : gS) (d : Int32) (h : Nat) (qs : Nat → qT) (n : Nat) (wh wn : Nat → Nat) (sn : Nat → Int32) (e : Nat → Int32) : Bool := alB (fun i => decide (sq Z d h qs (e (wh i)) (wh i) (wn i) = sn i)) n
noncomputable def otB (Z : gS) (d : Int32) (h : Nat) (qs : Nat → qT) (n : Nat) (wh wn : Nat → Nat) (sn : Nat → Int32) (x : Int32) : Bool := alB (fun g => decide (nI g = x) || suB n wh wn sn (sq Z d h qs (Z 5 g) g) g) (tn1 Z)
theorem suB_t {n : Nat} {wh wn : Nat → Nat} {sn R : Nat → Int32} {g : Nat} : suB n wh wn sn R g = true ↔ ∀ i, i < n → wh i = g → R (wn i) = sn i := by
  unfold suB
  rw [alB_t]
  refine ⟨fun h i hi hg => ?_, fun h i hi => ?_⟩
  · have := h i hi
    rw [hg, decide_eq_true rfl] at this
    exact of_decide_eq_true this
  · by_cases hg : wh i = g
    · rw [decide_eq_true hg, decide_eq_true (h i hi hg)]
      rfl
    · rw [decide_eq_false hg]
      rfl
theorem asB_all {Z : gS} {d : Int32} {h : Nat} {qs : Nat → qT} {n : Nat} {wh wn : Nat → Nat} {sn : Nat → Int32} (Zk : tOK Z) (hk : seK Z n wh wn) : asB Z d h qs n wh wn sn (Z 5) = otB Z d h qs n wh wn sn (-1) := by
  have z6 := Zk.2.1.2
  rw [Bool.eq_iff_iff]
  unfold asB otB
  rw [alB_t, alB_t]
  refine ⟨fun a g hg => ?_, fun a i hi => ?_⟩
  · rw [decide_eq_false (nI_nem (by omega)), Bool.false_or, suB_t]
    intro i hi hw
    have := of_decide_eq_true (a i hi)
    rw [hw] at this
    exact this
  · have := a (wh i) (hk.2 i hi).1
    have hg := (hk.2 i hi).1
    rw [decide_eq_false (nI_nem (by omega)), Bool.false_or, suB_t] at this
    exact decide_eq_true (this i hi rfl)
theorem asB_one {Z : gS} {d x : Int32} {h g : Nat} {qs : Nat → qT} {n : Nat} {wh wn : Nat → Nat} {sn : Nat → Int32} (Zk : tOK Z) (hg : g < tn1 Z) (hk : seK Z n wh wn) : asB Z d h qs n wh wn sn (upE (Z 5) g x) = (otB Z d h qs n wh wn sn (nI g) && suB n wh wn sn (sq Z d h qs x g) g) := by
  have z6 := Zk.2.1.2
  rw [Bool.eq_iff_iff, Bool.and_eq_true, suB_t]
  unfold asB otB
  rw [alB_t, alB_t]
  refine ⟨fun a => ⟨fun g' hg' => ?_, fun i hi hw => ?_⟩, fun a i hi => ?_⟩
  · by_cases q : g' = g
    · rw [q, decide_eq_true rfl]; rfl
    · rw [decide_eq_false (fun z => q ((nI_eq (by omega) (by omega)).mp z)), Bool.false_or, suB_t]
      intro i hi hw
      have := of_decide_eq_true (a i hi)
      unfold upE at this
      rw [hw, if_neg q] at this
      exact this
  · have := of_decide_eq_true (a i hi)
    unfold upE at this
    rw [hw, if_pos rfl] at this
    exact this
  · have hg' := (hk.2 i hi).1
    refine decide_eq_true ?_
    unfold upE
    by_cases q : wh i = g
    · rw [if_pos q, q]
      exact a.2 i hi q
    · rw [if_neg q]
      have := a.1 (wh i) hg'
      rw [decide_eq_false (fun z => q ((nI_eq (by omega) (by omega)).mp z)), Bool.false_or, suB_t] at this
      exact this i hi rfl
noncomputable def fitB (Z : gS) (d : Int32) (h : Nat) (qs : Nat → qT) (n : Nat) (wh wn : Nat → Nat) (sn : Nat → Int32) (j : Nat) : Bool := !(decide (nI (j % 10) = Z 5 (j / 10))) && (otB Z d h qs n wh wn sn (nI (j / 10)) && suB n wh wn sn (sq Z d h qs (nI (j % 10)) (j / 10)) (j / 10))
/-- the i-th that fits -/
noncomputable def fI (c : Nat → Bool) (i : Nat) : Nat := fsK (fun j => c j && decide (cntB c j = i)) 60
theorem cntB_mo {c : Nat → Bool} : ∀ a b, a ≤ b → cntB c a ≤ cntB c b := by
  intro a b
  induction b with
  | zero => intro h; obtain rfl : a = 0 := by omega
            exact Nat.le_refl _
  | succ b ih =>
    intro h
    by_cases q : a = b + 1
    · rw [q]; exact Nat.le_refl _
    · have := ih (by omega)
      show _ ≤ cntB c b + _
      omega
theorem fI_at {c : Nat → Bool} {j : Nat} (hj : j < 60) (hc : c j = true) : fI c (cntB c j) = j := by
  have hs : ∀ k, c k = true → cntB c (k + 1) = cntB c k + 1 := fun k q => by
    show cntB c k + (if c k = true then 1 else 0) = _
    rw [if_pos q]
  rcases fsK_sp (ok := fun k => c k && decide (cntB c k = cntB c j)) 60 with ⟨a1, a2, a3⟩ | ⟨a1, a2⟩
  · have a2' : (c (fI c (cntB c j)) && decide (cntB c (fI c (cntB c j)) = cntB c j)) = true := a2
    rw [Bool.and_eq_true, decide_eq_true_iff] at a2'
    rcases Nat.lt_trichotomy (fI c (cntB c j)) j with q | q | q
    · have := cntB_mo (c := c) (fI c (cntB c j) + 1) j (by omega)
      rw [hs _ a2'.1] at this
      omega
    · exact q
    · have := cntB_mo (c := c) (j + 1) (fI c (cntB c j)) (by omega)
      rw [hs _ hc] at this
      omega
  · exfalso
    have : (c j && decide (cntB c j = cntB c j)) = false := a2 j hj
    rw [hc, decide_eq_true rfl] at this
    cases this
/-- the WORST behind an hour, and all the WORSTS of the first n that fit -/
noncomputable def wsN (Z : gS) (d : Int32) (h : Nat) (qs : Nat → qT) (j t : Nat) : Nat := gtN (fun g => sq Z d h qs (upE (Z 5) (j / 10) (nI (j % 10)) g) g t) (tn1 Z)
noncomputable def orN (w : Nat → Nat) : Nat → Nat
  | 0 => 0
  | n + 1 => orN w n ||| 2 ^ w n
theorem orN_lt {w : Nat → Nat} : ∀ n, (∀ i, i < n → w i < 8) → orN w n < 256 := by
  intro n
  induction n with
  | zero => intro _; exact (by decide : 0 < 256)
  | succ n ih =>
    intro h
    exact or_lt (n := 8) (ih (fun i hi => h i (by omega))) (h n (by omega))
