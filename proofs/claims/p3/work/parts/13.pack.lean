/-! part 08.m04 -/
section
/-! the reference's methods as maps of states, and their walks (printed by wip/whole/mkm.py) -/
section
variable {p : Program} {l : Launch} {e : Env} {s : State} {m : MethodId} {args : Array Value} {below : List Frame} {meth : Method} {c : Code} {D : va_G} {g : Nat → Nat} {cI cS : ClassId} {sa : Nat → Nat → Option Nat} {Am : (Nat → Prop) → State → Heap → Prop}
-- keep
noncomputable def fX12_keep_b52 (N : Nat) (S : gS) : Option (Int32 × gS) := bnd (fX12_pack N 36 ((26 * (S 99 39) : Int32)) S) fun q1 => (lt (sU q1.2 99 39 (((q1.2 99 39) + 1 : Int32))) fun S2 => (some (0, S2)))
theorem bX12_keep_52 {N : Nat} {S : gS} {H : Heap} {locs : List Loc} {ls : Array Slot} {o : Int32 × gS} (C : gC p s m args meth c cX12_keep 2 RX12 none D (mtys cI cS) mord g Am) (O : gO (mcell g cI cS sa) mord g) (X : gX D (mcell g cI cS sa) mord g S s H locs) (hl : lv_has ls 2 [(0, .ref (g 99))]) (hF : fX12_keep_b52 N S = some o) : W p l e (rmd 1) s m args below meth c H locs 0 0 (gE below args s D (mtys cI cS) (mcell g cI cS sa) mord g none o.2) (F0 m 52 ls []) := by
  unfold fX12_keep_b52 at hF
  refine lv_aload_n C.1.1 C.1.2.1 dX12_keep_52 rfl (lv_at hl 0 rfl) ?_
  refine lv_aload_n C.1.1 C.1.2.1 dX12_keep_53 rfl (lv_at hl 0 rfl) ?_
  refine m_g36 C X dX12_keep_54 ?_
  refine lv_bipush (v := 26) C.1.1 C.1.2.1 dX12_keep_57 (by decide) ?_
  refine lv_aload_n C.1.1 C.1.2.1 dX12_keep_59 rfl (lv_at hl 0 rfl) ?_
  refine m_g39 C X dX12_keep_60 ?_
  refine lv_imul C.1.1 C.1.2.1 dX12_keep_63 ?_
  obtain ⟨q1, hq1, hF⟩ := bnd_some hF
  refine m_callV C X vX12_pack rfl (kX12_pack O C.2.2.2.2.1 N 36 ((26 * (S 99 39) : Int32)) (rfl : mI 36 = true) S q1 hq1) (Nat.le_of_ble_eq_true rfl) (Nat.le_of_ble_eq_true rfl) (Nat.le_of_ble_eq_true rfl) (Nat.le_of_ble_eq_true rfl) rfl hl.1 rfl (Nat.le_of_ble_eq_true rfl) dX12_keep_64 (fun H locs X => ?_)
  refine lv_aload_n C.1.1 C.1.2.1 dX12_keep_67 rfl (lv_at hl 0 rfl) ?_
  refine lv_dup C.1.1 C.1.2.1 dX12_keep_68 rfl ?_
  refine m_g39 C X dX12_keep_69 ?_
  refine lv_iconst (v := 1) C.1.1 C.1.2.1 dX12_keep_72 (by decide) ?_
  refine lv_iadd C.1.1 C.1.2.1 dX12_keep_73 ?_
  obtain ⟨S2, eS2, hF⟩ := lt_some hF
  refine m_p39 C O X eS2 dX12_keep_74 (fun H locs X => ?_)
  cases hF
  exact g_vret C X dX12_keep_77
noncomputable def fX12_keep_b42 (N : Nat) (S : gS) : Option (Int32 × gS) := lt (sU S 99 39 (((S 99 39) - 1 : Int32))) fun S1 => (fX12_keep_b52 N S1)
theorem bX12_keep_42 {N : Nat} {S : gS} {H : Heap} {locs : List Loc} {ls : Array Slot} {o : Int32 × gS} (C : gC p s m args meth c cX12_keep 2 RX12 none D (mtys cI cS) mord g Am) (O : gO (mcell g cI cS sa) mord g) (X : gX D (mcell g cI cS sa) mord g S s H locs) (hl : lv_has ls 2 [(0, .ref (g 99))]) (hF : fX12_keep_b42 N S = some o) : W p l e (rmd 1) s m args below meth c H locs 0 0 (gE below args s D (mtys cI cS) (mcell g cI cS sa) mord g none o.2) (F0 m 42 ls []) := by
  unfold fX12_keep_b42 at hF
  refine lv_aload_n C.1.1 C.1.2.1 dX12_keep_42 rfl (lv_at hl 0 rfl) ?_
  refine lv_dup C.1.1 C.1.2.1 dX12_keep_43 rfl ?_
  refine m_g39 C X dX12_keep_44 ?_
  refine lv_iconst (v := 1) C.1.1 C.1.2.1 dX12_keep_47 (by decide) ?_
  refine lv_isub C.1.1 C.1.2.1 dX12_keep_48 ?_
  obtain ⟨S1, eS1, hF⟩ := lt_some hF
  refine m_p39 C O X eS1 dX12_keep_49 (fun H locs X => ?_)
  exact bX12_keep_52 C O X (lv_sub hl [0] rfl) hF
noncomputable def fX12_keep_b21 (N : Nat) (r12 : Int32 → gS → Option (Int32 × gS)) (x1 : Int32) (S : gS) : Option (Int32 × gS) := chk (inb x1 (1040)) (chk (inb ((x1 - 26 : Int32)) (1040)) (lt (sU S 36 (Int32.toNatClampNeg ((x1 - 26 : Int32))) (S 36 (Int32.toNatClampNeg x1))) fun S1 => (r12 ((x1 + 1 : Int32)) S1)))
theorem bX12_keep_21 {N : Nat} {r12 : Int32 → gS → Option (Int32 × gS)} {x1 : Int32} {S : gS} {H : Heap} {locs : List Loc} {ls : Array Slot} {o : Int32 × gS} (C : gC p s m args meth c cX12_keep 2 RX12 none D (mtys cI cS) mord g Am) (O : gO (mcell g cI cS sa) mord g) (K12 : ∀ (x1 : Int32) (S : gS) (H : Heap) (locs : List Loc) (ls : Array Slot), gX D (mcell g cI cS sa) mord g S s H locs → lv_has ls 2 [(0, .ref (g 99)), (1, .int x1)] → r12 x1 S = some o → W p l e (rmd 1) s m args below meth c H locs 0 0 (gE below args s D (mtys cI cS) (mcell g cI cS sa) mord g none o.2) (F0 m 12 ls [])) (X : gX D (mcell g cI cS sa) mord g S s H locs) (hl : lv_has ls 2 [(0, .ref (g 99)), (1, .int x1)]) (hF : fX12_keep_b21 N r12 x1 S = some o) : W p l e (rmd 1) s m args below meth c H locs 0 0 (gE below args s D (mtys cI cS) (mcell g cI cS sa) mord g none o.2) (F0 m 21 ls []) := by
  unfold fX12_keep_b21 at hF
  refine lv_aload_n C.1.1 C.1.2.1 dX12_keep_21 rfl (lv_at hl 0 rfl) ?_
  refine m_g36 C X dX12_keep_22 ?_
  refine lv_iload_n C.1.1 C.1.2.1 dX12_keep_25 rfl (lv_at hl 1 rfl) ?_
  refine lv_bipush (v := 26) C.1.1 C.1.2.1 dX12_keep_26 (by decide) ?_
  refine lv_isub C.1.1 C.1.2.1 dX12_keep_28 ?_
  refine lv_aload_n C.1.1 C.1.2.1 dX12_keep_29 rfl (lv_at hl 0 rfl) ?_
  refine m_g36 C X dX12_keep_30 ?_
  refine lv_iload_n C.1.1 C.1.2.1 dX12_keep_33 rfl (lv_at hl 1 rfl) ?_
  obtain ⟨h_1, hF⟩ := chk_some hF
  refine m_r36 C X  (inb_vp h_1) rfl dX12_keep_34 ?_
  obtain ⟨h_2, hF⟩ := chk_some hF
  obtain ⟨S1, eS1, hF⟩ := lt_some hF
  refine m_w36 C O X  (inb_vp h_2) rfl eS1 dX12_keep_35 (fun H locs X => ?_)
  refine lv_iinc (v := (x1 + 1 : Int32)) (lv' := [(1, .int ((x1 + 1 : Int32))), (0, .ref (g 99))]) C.1.1 C.1.2.1 dX12_keep_36 hl (k := 1) rfl rfl (by decide) rfl (fun ls hl => ?_)
  refine lv_goto (tgt := 12) C.1.1 C.1.2.1 dX12_keep_39 (by decide) ?_
  exact K12 _ _ _ _ _ X (lv_sub hl [1, 0] rfl) hF
noncomputable def fX12_keep_b12 (N : Nat) (r12 : Int32 → gS → Option (Int32 × gS)) (x1 : Int32) (S : gS) : Option (Int32 × gS) := if 1040 ≤ x1 then fX12_keep_b42 N S else fX12_keep_b21 N r12 x1 S
theorem bX12_keep_12 {N : Nat} {r12 : Int32 → gS → Option (Int32 × gS)} {x1 : Int32} {S : gS} {H : Heap} {locs : List Loc} {ls : Array Slot} {o : Int32 × gS} (C : gC p s m args meth c cX12_keep 2 RX12 none D (mtys cI cS) mord g Am) (O : gO (mcell g cI cS sa) mord g) (K12 : ∀ (x1 : Int32) (S : gS) (H : Heap) (locs : List Loc) (ls : Array Slot), gX D (mcell g cI cS sa) mord g S s H locs → lv_has ls 2 [(0, .ref (g 99)), (1, .int x1)] → r12 x1 S = some o → W p l e (rmd 1) s m args below meth c H locs 0 0 (gE below args s D (mtys cI cS) (mcell g cI cS sa) mord g none o.2) (F0 m 12 ls [])) (X : gX D (mcell g cI cS sa) mord g S s H locs) (hl : lv_has ls 2 [(0, .ref (g 99)), (1, .int x1)]) (hF : fX12_keep_b12 N r12 x1 S = some o) : W p l e (rmd 1) s m args below meth c H locs 0 0 (gE below args s D (mtys cI cS) (mcell g cI cS sa) mord g none o.2) (F0 m 12 ls []) := by
  unfold fX12_keep_b12 at hF
  refine lv_iload_n C.1.1 C.1.2.1 dX12_keep_12 rfl (lv_at hl 1 rfl) ?_
  refine lv_aload_n C.1.1 C.1.2.1 dX12_keep_13 rfl (lv_at hl 0 rfl) ?_
  refine m_g36 C X dX12_keep_14 ?_
  refine m_lv C X (k := 36) rfl (x := 1040) (by decide) dX12_keep_17 ?_
  refine lv_icmp_ge (tgt := 42) C.1.1 C.1.2.1 dX12_keep_18 (by decide) (fun h_z => ?_) (fun h_z => ?_)
  · rw [if_pos h_z] at hF
    exact bX12_keep_42 C O X (lv_sub hl [0] rfl) hF
  · rw [if_neg h_z] at hF
    exact bX12_keep_21 C O K12 X (lv_sub hl [0, 1] rfl) hF
noncomputable def fX12_keep_h12 (N : Nat) : Nat → Int32 → gS → Option (Int32 × gS)
  | 0, _, _ => none
  | n + 1, x1, S => fX12_keep_b12 N (fX12_keep_h12 N n) x1 S
theorem hX12_keep_12 {N : Nat} {o : Int32 × gS} (C : gC p s m args meth c cX12_keep 2 RX12 none D (mtys cI cS) mord g Am) (O : gO (mcell g cI cS sa) mord g) : ∀ (n : Nat) (x1 : Int32) (S : gS) (H : Heap) (locs : List Loc) (ls : Array Slot), gX D (mcell g cI cS sa) mord g S s H locs → lv_has ls 2 [(0, .ref (g 99)), (1, .int x1)] → fX12_keep_h12 N n x1 S = some o → W p l e (rmd 1) s m args below meth c H locs 0 0 (gE below args s D (mtys cI cS) (mcell g cI cS sa) mord g none o.2) (F0 m 12 ls []) := by
  intro n
  induction n with
  | zero =>
    intro x1 S H locs ls X hl hF
    exact absurd (show (none : Option (Int32 × gS)) = some o from hF) (by simp)
  | succ n ih =>
    intro x1 S H locs ls X hl hF
    have hF : fX12_keep_b12 N (fX12_keep_h12 N n) x1 S = some o := hF
    exact bX12_keep_12 C O ih X hl hF
noncomputable def fX12_keep_b9 (N : Nat) (S : gS) : Option (Int32 × gS) := fX12_keep_h12 N N 26 S
theorem bX12_keep_9 {N : Nat} {S : gS} {H : Heap} {locs : List Loc} {ls : Array Slot} {o : Int32 × gS} (C : gC p s m args meth c cX12_keep 2 RX12 none D (mtys cI cS) mord g Am) (O : gO (mcell g cI cS sa) mord g) (X : gX D (mcell g cI cS sa) mord g S s H locs) (hl : lv_has ls 2 [(0, .ref (g 99))]) (hF : fX12_keep_b9 N S = some o) : W p l e (rmd 1) s m args below meth c H locs 0 0 (gE below args s D (mtys cI cS) (mcell g cI cS sa) mord g none o.2) (F0 m 9 ls []) := by
  unfold fX12_keep_b9 at hF
  refine lv_bipush (v := 26) C.1.1 C.1.2.1 dX12_keep_9 (by decide) ?_
  refine lv_istore_n (lv' := [(1, .int 26), (0, .ref (g 99))]) C.1.1 C.1.2.1 dX12_keep_11 rfl hl (by decide) rfl (fun ls hl => ?_)
  exact hX12_keep_12 C O N _ _ _ _ _ X (lv_sub hl [1, 0] rfl) hF
noncomputable def fX12_keep_b0 (N : Nat) (S : gS) : Option (Int32 × gS) := if (S 99 39) = 40 then fX12_keep_b9 N S else fX12_keep_b52 N S
theorem bX12_keep_0 {N : Nat} {S : gS} {H : Heap} {locs : List Loc} {ls : Array Slot} {o : Int32 × gS} (C : gC p s m args meth c cX12_keep 2 RX12 none D (mtys cI cS) mord g Am) (O : gO (mcell g cI cS sa) mord g) (X : gX D (mcell g cI cS sa) mord g S s H locs) (hl : lv_has ls 2 [(0, .ref (g 99))]) (hF : fX12_keep_b0 N S = some o) : W p l e (rmd 1) s m args below meth c H locs 0 0 (gE below args s D (mtys cI cS) (mcell g cI cS sa) mord g none o.2) (F0 m 0 ls []) := by
  unfold fX12_keep_b0 at hF
  refine lv_aload_n C.1.1 C.1.2.1 dX12_keep_0 rfl (lv_at hl 0 rfl) ?_
  refine m_g39 C X dX12_keep_1 ?_
  refine lv_bipush (v := 40) C.1.1 C.1.2.1 dX12_keep_4 (by decide) ?_
  refine lv_icmp_ne (tgt := 52) C.1.1 C.1.2.1 dX12_keep_6 (by decide) (fun h_z => ?_) (fun h_z => ?_)
  · rw [if_neg h_z] at hF
    exact bX12_keep_52 C O X (lv_sub hl [0] rfl) hF
  · rw [if_pos h_z] at hF
    exact bX12_keep_9 C O X (lv_sub hl [0] rfl) hF
noncomputable def fX12_keep (N : Nat) (S : gS) : Option (Int32 × gS) := fX12_keep_b0 N S
theorem kX12_keep {l : Launch} {D : va_G} {g : Nat → Nat} {cI cS : ClassId} {sa : Nat → Nat → Option Nat} {Am : (Nat → Prop) → State → Heap → Prop} (O : gO (mcell g cI cS sa) mord g) (P : gAm Am) (N : Nat) (S : gS) (o : Int32 × gS) (hF : fX12_keep N S = some o) : gM l yX12_keep cX12_keep 2 none 1 D (mtys cI cS) (mcell g cI cS sa) mord g Am [.ref (g 99)] S none o.2 :=
  gM_of O P (by decide) (Nat.le_of_ble_eq_true rfl) (fun p e s m args below meth c ls C X hl => bX12_keep_0 C O X (lv_sub hl [0] rfl) hF)
-- hours
noncomputable def fX12_hours_b35 (N : Nat) (x1 : Int32) (S : gS) : Option (Int32 × gS) := bnd (fX12_keep N  S) fun q1 => (bnd (fX12_goOn N x1 q1.2) fun q2 => (some (q2.2 99 37, q2.2)))
theorem bX12_hours_35 {N : Nat} {x1 : Int32} {S : gS} {H : Heap} {locs : List Loc} {ls : Array Slot} {o : Int32 × gS} (C : gC p s m args meth c cX12_hours 2 RX12 ((some .int)) D (mtys cI cS) mord g Am) (O : gO (mcell g cI cS sa) mord g) (X : gX D (mcell g cI cS sa) mord g S s H locs) (hl : lv_has ls 2 [(0, .ref (g 99)), (1, .int x1)]) (hF : fX12_hours_b35 N x1 S = some o) : W p l e (rmd 7) s m args below meth c H locs 0 0 (gE below args s D (mtys cI cS) (mcell g cI cS sa) mord g (some (.int o.1)) o.2) (F0 m 35 ls []) := by
  unfold fX12_hours_b35 at hF
  refine lv_aload_n C.1.1 C.1.2.1 dX12_hours_35 rfl (lv_at hl 0 rfl) ?_
  obtain ⟨q1, hq1, hF⟩ := bnd_some hF
  refine m_callV C X vX12_keep rfl (kX12_keep O C.2.2.2.2.1 N   S q1 hq1) (Nat.le_of_ble_eq_true rfl) (Nat.le_of_ble_eq_true rfl) (Nat.le_of_ble_eq_true rfl) (Nat.le_of_ble_eq_true rfl) rfl hl.1 rfl (Nat.le_of_ble_eq_true rfl) dX12_hours_36 (fun H locs X => ?_)
  refine lv_aload_n C.1.1 C.1.2.1 dX12_hours_39 rfl (lv_at hl 0 rfl) ?_
  refine lv_iload_n C.1.1 C.1.2.1 dX12_hours_40 rfl (lv_at hl 1 rfl) ?_
  obtain ⟨q2, hq2, hF⟩ := bnd_some hF
  refine m_callV C X vX12_goOn rfl (kX12_goOn O C.2.2.2.2.1 N x1  q1.2 q2 hq2) (Nat.le_of_ble_eq_true rfl) (Nat.le_of_ble_eq_true rfl) (Nat.le_of_ble_eq_true rfl) (Nat.le_of_ble_eq_true rfl) rfl hl.1 rfl (Nat.le_of_ble_eq_true rfl) dX12_hours_41 (fun H locs X => ?_)
  refine lv_aload_n C.1.1 C.1.2.1 dX12_hours_44 rfl (lv_at hl 0 rfl) ?_
  refine m_g37 C X dX12_hours_45 ?_
  cases hF
  exact g_iret C X dX12_hours_48
noncomputable def fX12_hours_b29 (N : Nat) (S : gS) : Option (Int32 × gS) := bnd (fX12_refuse N 1 S) fun q1 => (some (q1.1, q1.2))
theorem bX12_hours_29 {N : Nat} {S : gS} {H : Heap} {locs : List Loc} {ls : Array Slot} {o : Int32 × gS} (C : gC p s m args meth c cX12_hours 2 RX12 ((some .int)) D (mtys cI cS) mord g Am) (O : gO (mcell g cI cS sa) mord g) (X : gX D (mcell g cI cS sa) mord g S s H locs) (hl : lv_has ls 2 [(0, .ref (g 99))]) (hF : fX12_hours_b29 N S = some o) : W p l e (rmd 7) s m args below meth c H locs 0 0 (gE below args s D (mtys cI cS) (mcell g cI cS sa) mord g (some (.int o.1)) o.2) (F0 m 29 ls []) := by
  unfold fX12_hours_b29 at hF
  refine lv_aload_n C.1.1 C.1.2.1 dX12_hours_29 rfl (lv_at hl 0 rfl) ?_
  refine lv_iconst (v := 1) C.1.1 C.1.2.1 dX12_hours_30 (by decide) ?_
  obtain ⟨q1, hq1, hF⟩ := bnd_some hF
  refine m_callVi C X vX12_refuse rfl (kX12_refuse O C.2.2.2.2.1 N 1  S q1 hq1) (Nat.le_of_ble_eq_true rfl) (Nat.le_of_ble_eq_true rfl) (Nat.le_of_ble_eq_true rfl) (Nat.le_of_ble_eq_true rfl) rfl hl.1 rfl (Nat.le_of_ble_eq_true rfl) dX12_hours_31 (fun H locs X => ?_)
  cases hF
  exact g_iret C X dX12_hours_34
noncomputable def fX12_hours_b17 (N : Nat) (x1 : Int32) (S : gS) : Option (Int32 × gS) := if (((S 99 37) + x1 : Int32)) ≤ 999 then fX12_hours_b35 N x1 S else fX12_hours_b29 N S
theorem bX12_hours_17 {N : Nat} {x1 : Int32} {S : gS} {H : Heap} {locs : List Loc} {ls : Array Slot} {o : Int32 × gS} (C : gC p s m args meth c cX12_hours 2 RX12 ((some .int)) D (mtys cI cS) mord g Am) (O : gO (mcell g cI cS sa) mord g) (X : gX D (mcell g cI cS sa) mord g S s H locs) (hl : lv_has ls 2 [(0, .ref (g 99)), (1, .int x1)]) (hF : fX12_hours_b17 N x1 S = some o) : W p l e (rmd 7) s m args below meth c H locs 0 0 (gE below args s D (mtys cI cS) (mcell g cI cS sa) mord g (some (.int o.1)) o.2) (F0 m 17 ls []) := by
  unfold fX12_hours_b17 at hF
  refine lv_aload_n C.1.1 C.1.2.1 dX12_hours_17 rfl (lv_at hl 0 rfl) ?_
  refine m_g37 C X dX12_hours_18 ?_
  refine lv_iload_n C.1.1 C.1.2.1 dX12_hours_21 rfl (lv_at hl 1 rfl) ?_
  refine lv_iadd C.1.1 C.1.2.1 dX12_hours_22 ?_
  refine lv_sipush (v := 999) C.1.1 C.1.2.1 dX12_hours_23 (by decide) ?_
  refine lv_icmp_le (tgt := 35) C.1.1 C.1.2.1 dX12_hours_26 (by decide) (fun h_z => ?_) (fun h_z => ?_)
  · rw [if_pos h_z] at hF
    exact bX12_hours_35 C O X (lv_sub hl [0, 1] rfl) hF
  · rw [if_neg h_z] at hF
    exact bX12_hours_29 C O X (lv_sub hl [0] rfl) hF
noncomputable def fX12_hours_b0 (N : Nat) (x1 : Int32) (S : gS) : Option (Int32 × gS) := lt (sU S 99 4 0) fun S1 => (bnd (fX12_isIn N (Int32.toInt64 x1) 1 20 S1) fun q1 => (if q1.1 = 0 then fX12_hours_b29 N q1.2 else fX12_hours_b17 N x1 q1.2))
theorem bX12_hours_0 {N : Nat} {x1 : Int32} {S : gS} {H : Heap} {locs : List Loc} {ls : Array Slot} {o : Int32 × gS} (C : gC p s m args meth c cX12_hours 2 RX12 ((some .int)) D (mtys cI cS) mord g Am) (O : gO (mcell g cI cS sa) mord g) (X : gX D (mcell g cI cS sa) mord g S s H locs) (hl : lv_has ls 2 [(0, .ref (g 99)), (1, .int x1)]) (hF : fX12_hours_b0 N x1 S = some o) : W p l e (rmd 7) s m args below meth c H locs 0 0 (gE below args s D (mtys cI cS) (mcell g cI cS sa) mord g (some (.int o.1)) o.2) (F0 m 0 ls []) := by
  unfold fX12_hours_b0 at hF
  refine lv_aload_n C.1.1 C.1.2.1 dX12_hours_0 rfl (lv_at hl 0 rfl) ?_
  refine lv_iconst (v := 0) C.1.1 C.1.2.1 dX12_hours_1 (by decide) ?_
  obtain ⟨S1, eS1, hF⟩ := lt_some hF
  refine m_p4 C O X eS1 dX12_hours_2 (fun H locs X => ?_)
  refine lv_iload_n C.1.1 C.1.2.1 dX12_hours_5 rfl (lv_at hl 1 rfl) ?_
  refine lv_i2l (v := Int32.toInt64 x1) C.1.1 C.1.2.1 dX12_hours_6 rfl ?_
  refine lv_lconst (v := 1) C.1.1 C.1.2.1 dX12_hours_7 (by decide) ?_
  refine lv_ldc2 C.1.1 C.1.2.1 C.1.2.2.2.1 (C.1.2.2.2.2 _ mKL404) dX12_hours_8 ?_
  obtain ⟨q1, hq1, hF⟩ := bnd_some hF
  refine g_callSi C X vX12_isIn (kX12_isIn O C.2.2.2.2.1 N (Int32.toInt64 x1) 1 20  S1 q1 hq1) (Nat.le_of_ble_eq_true rfl) (Nat.le_of_ble_eq_true rfl) (Nat.le_of_ble_eq_true rfl) (Nat.le_of_ble_eq_true rfl) rfl hl.1 rfl (Nat.le_of_ble_eq_true rfl) dX12_hours_11 (fun H locs X => ?_)
  refine lv_if_eq (tgt := 29) C.1.1 C.1.2.1 dX12_hours_14 (by decide) (fun h_z => ?_) (fun h_z => ?_)
  · rw [if_pos h_z] at hF
    exact bX12_hours_29 C O X (lv_sub hl [0] rfl) hF
  · rw [if_neg h_z] at hF
    exact bX12_hours_17 C O X (lv_sub hl [0, 1] rfl) hF
noncomputable def fX12_hours (N : Nat) (x1 : Int32) (S : gS) : Option (Int32 × gS) := fX12_hours_b0 N x1 S
theorem kX12_hours {l : Launch} {D : va_G} {g : Nat → Nat} {cI cS : ClassId} {sa : Nat → Nat → Option Nat} {Am : (Nat → Prop) → State → Heap → Prop} (O : gO (mcell g cI cS sa) mord g) (P : gAm Am) (N : Nat) (x1 : Int32) (S : gS) (o : Int32 × gS) (hF : fX12_hours N x1 S = some o) : gM l yX12_hours cX12_hours 2 ((some .int)) 7 D (mtys cI cS) (mcell g cI cS sa) mord g Am [.ref (g 99), .int x1] S (some (.int o.1)) o.2 :=
  gM_of O P (by decide) (Nat.le_of_ble_eq_true rfl) (fun p e s m args below meth c ls C X hl => bX12_hours_0 C O X (lv_sub hl [0, 1] rfl) hF)
-- hire
noncomputable def fX12_hire_b41 (N : Nat) (x1 : Int32) (x2 : Int32) (S : gS) : Option (Int32 × gS) := bnd (fX12_keep N  S) fun q1 => (chk (inb x1 (6)) (lt (sU q1.2 35 (Int32.toNatClampNeg x1) x2) fun S2 => (some (1, S2))))
theorem bX12_hire_41 {N : Nat} {x1 : Int32} {x2 : Int32} {S : gS} {H : Heap} {locs : List Loc} {ls : Array Slot} {o : Int32 × gS} (C : gC p s m args meth c cX12_hire 3 RX12 ((some .boolean)) D (mtys cI cS) mord g Am) (O : gO (mcell g cI cS sa) mord g) (X : gX D (mcell g cI cS sa) mord g S s H locs) (hl : lv_has ls 3 [(0, .ref (g 99)), (1, .int x1), (2, .int x2)]) (hF : fX12_hire_b41 N x1 x2 S = some o) : W p l e (rmd 2) s m args below meth c H locs 0 0 (gE below args s D (mtys cI cS) (mcell g cI cS sa) mord g (some (.int o.1)) o.2) (F0 m 41 ls []) := by
  unfold fX12_hire_b41 at hF
  refine lv_aload_n C.1.1 C.1.2.1 dX12_hire_41 rfl (lv_at hl 0 rfl) ?_
  obtain ⟨q1, hq1, hF⟩ := bnd_some hF
  refine m_callV C X vX12_keep rfl (kX12_keep O C.2.2.2.2.1 N   S q1 hq1) (Nat.le_of_ble_eq_true rfl) (Nat.le_of_ble_eq_true rfl) (Nat.le_of_ble_eq_true rfl) (Nat.le_of_ble_eq_true rfl) rfl hl.1 rfl (Nat.le_of_ble_eq_true rfl) dX12_hire_42 (fun H locs X => ?_)
  refine lv_aload_n C.1.1 C.1.2.1 dX12_hire_45 rfl (lv_at hl 0 rfl) ?_
  refine m_g35 C X dX12_hire_46 ?_
  refine lv_iload_n C.1.1 C.1.2.1 dX12_hire_49 rfl (lv_at hl 1 rfl) ?_
  refine lv_iload_n C.1.1 C.1.2.1 dX12_hire_50 rfl (lv_at hl 2 rfl) ?_
  obtain ⟨h_1, hF⟩ := chk_some hF
  obtain ⟨S2, eS2, hF⟩ := lt_some hF
  refine m_w35 C O X  (inb_vp h_1) rfl eS2 dX12_hire_51 (fun H locs X => ?_)
  refine lv_iconst (v := 1) C.1.1 C.1.2.1 dX12_hire_52 (by decide) ?_
  cases hF
  exact g_zret (x := 1) C X (by decide) dX12_hire_53
noncomputable def fX12_hire_b36 (N : Nat) (S : gS) : Option (Int32 × gS) := bnd (fX12_refused N  S) fun q1 => (chk (zb q1.1) (some (q1.1, q1.2)))
theorem bX12_hire_36 {N : Nat} {S : gS} {H : Heap} {locs : List Loc} {ls : Array Slot} {o : Int32 × gS} (C : gC p s m args meth c cX12_hire 3 RX12 ((some .boolean)) D (mtys cI cS) mord g Am) (O : gO (mcell g cI cS sa) mord g) (X : gX D (mcell g cI cS sa) mord g S s H locs) (hl : lv_has ls 3 [(0, .ref (g 99))]) (hF : fX12_hire_b36 N S = some o) : W p l e (rmd 2) s m args below meth c H locs 0 0 (gE below args s D (mtys cI cS) (mcell g cI cS sa) mord g (some (.int o.1)) o.2) (F0 m 36 ls []) := by
  unfold fX12_hire_b36 at hF
  refine lv_aload_n C.1.1 C.1.2.1 dX12_hire_36 rfl (lv_at hl 0 rfl) ?_
  obtain ⟨q1, hq1, hF⟩ := bnd_some hF
  refine m_callVi C X vX12_refused rfl (kX12_refused O C.2.2.2.2.1 N   S q1 hq1) (Nat.le_of_ble_eq_true rfl) (Nat.le_of_ble_eq_true rfl) (Nat.le_of_ble_eq_true rfl) (Nat.le_of_ble_eq_true rfl) rfl hl.1 rfl (Nat.le_of_ble_eq_true rfl) dX12_hire_37 (fun H locs X => ?_)
  obtain ⟨h_1, hF⟩ := chk_some hF
  cases hF
  exact g_zret C X h_1 dX12_hire_40
noncomputable def fX12_hire_b27 (N : Nat) (x1 : Int32) (x2 : Int32) (S : gS) : Option (Int32 × gS) := bnd (fX12_hirerOf N x2 S) fun q1 => (if q1.1 = ((-1)) then fX12_hire_b41 N x1 x2 q1.2 else fX12_hire_b36 N q1.2)
theorem bX12_hire_27 {N : Nat} {x1 : Int32} {x2 : Int32} {S : gS} {H : Heap} {locs : List Loc} {ls : Array Slot} {o : Int32 × gS} (C : gC p s m args meth c cX12_hire 3 RX12 ((some .boolean)) D (mtys cI cS) mord g Am) (O : gO (mcell g cI cS sa) mord g) (X : gX D (mcell g cI cS sa) mord g S s H locs) (hl : lv_has ls 3 [(0, .ref (g 99)), (1, .int x1), (2, .int x2)]) (hF : fX12_hire_b27 N x1 x2 S = some o) : W p l e (rmd 2) s m args below meth c H locs 0 0 (gE below args s D (mtys cI cS) (mcell g cI cS sa) mord g (some (.int o.1)) o.2) (F0 m 27 ls []) := by
  unfold fX12_hire_b27 at hF
  refine lv_aload_n C.1.1 C.1.2.1 dX12_hire_27 rfl (lv_at hl 0 rfl) ?_
  refine lv_iload_n C.1.1 C.1.2.1 dX12_hire_28 rfl (lv_at hl 2 rfl) ?_
  obtain ⟨q1, hq1, hF⟩ := bnd_some hF
  refine m_callVi C X vX12_hirerOf rfl (kX12_hirerOf O C.2.2.2.2.1 N x2  S q1 hq1) (Nat.le_of_ble_eq_true rfl) (Nat.le_of_ble_eq_true rfl) (Nat.le_of_ble_eq_true rfl) (Nat.le_of_ble_eq_true rfl) rfl hl.1 rfl (Nat.le_of_ble_eq_true rfl) dX12_hire_29 (fun H locs X => ?_)
  refine lv_iconst (v := (-1)) C.1.1 C.1.2.1 dX12_hire_32 (by decide) ?_
  refine lv_icmp_eq (tgt := 41) C.1.1 C.1.2.1 dX12_hire_33 (by decide) (fun h_z => ?_) (fun h_z => ?_)
  · rw [if_pos h_z] at hF
    exact bX12_hire_41 C O X (lv_sub hl [0, 1, 2] rfl) hF
  · rw [if_neg h_z] at hF
    exact bX12_hire_36 C O X (lv_sub hl [0] rfl) hF
noncomputable def fX12_hire_b21 (N : Nat) (S : gS) : Option (Int32 × gS) := bnd (fX12_failing N 1 S) fun q1 => (chk (zb q1.1) (some (q1.1, q1.2)))
theorem bX12_hire_21 {N : Nat} {S : gS} {H : Heap} {locs : List Loc} {ls : Array Slot} {o : Int32 × gS} (C : gC p s m args meth c cX12_hire 3 RX12 ((some .boolean)) D (mtys cI cS) mord g Am) (O : gO (mcell g cI cS sa) mord g) (X : gX D (mcell g cI cS sa) mord g S s H locs) (hl : lv_has ls 3 [(0, .ref (g 99))]) (hF : fX12_hire_b21 N S = some o) : W p l e (rmd 2) s m args below meth c H locs 0 0 (gE below args s D (mtys cI cS) (mcell g cI cS sa) mord g (some (.int o.1)) o.2) (F0 m 21 ls []) := by
  unfold fX12_hire_b21 at hF
  refine lv_aload_n C.1.1 C.1.2.1 dX12_hire_21 rfl (lv_at hl 0 rfl) ?_
  refine lv_iconst (v := 1) C.1.1 C.1.2.1 dX12_hire_22 (by decide) ?_
  obtain ⟨q1, hq1, hF⟩ := bnd_some hF
  refine m_callVi C X vX12_failing rfl (kX12_failing O C.2.2.2.2.1 N 1  S q1 hq1) (Nat.le_of_ble_eq_true rfl) (Nat.le_of_ble_eq_true rfl) (Nat.le_of_ble_eq_true rfl) (Nat.le_of_ble_eq_true rfl) rfl hl.1 rfl (Nat.le_of_ble_eq_true rfl) dX12_hire_23 (fun H locs X => ?_)
  obtain ⟨h_1, hF⟩ := chk_some hF
  cases hF
  exact g_zret C X h_1 dX12_hire_26
noncomputable def fX12_hire_b13 (N : Nat) (x1 : Int32) (x2 : Int32) (S : gS) : Option (Int32 × gS) := bnd (fX12_isGrotto N x2 S) fun q1 => (if q1.1 = 0 then fX12_hire_b21 N q1.2 else fX12_hire_b27 N x1 x2 q1.2)
theorem bX12_hire_13 {N : Nat} {x1 : Int32} {x2 : Int32} {S : gS} {H : Heap} {locs : List Loc} {ls : Array Slot} {o : Int32 × gS} (C : gC p s m args meth c cX12_hire 3 RX12 ((some .boolean)) D (mtys cI cS) mord g Am) (O : gO (mcell g cI cS sa) mord g) (X : gX D (mcell g cI cS sa) mord g S s H locs) (hl : lv_has ls 3 [(0, .ref (g 99)), (1, .int x1), (2, .int x2)]) (hF : fX12_hire_b13 N x1 x2 S = some o) : W p l e (rmd 2) s m args below meth c H locs 0 0 (gE below args s D (mtys cI cS) (mcell g cI cS sa) mord g (some (.int o.1)) o.2) (F0 m 13 ls []) := by
  unfold fX12_hire_b13 at hF
  refine lv_aload_n C.1.1 C.1.2.1 dX12_hire_13 rfl (lv_at hl 0 rfl) ?_
  refine lv_iload_n C.1.1 C.1.2.1 dX12_hire_14 rfl (lv_at hl 2 rfl) ?_
  obtain ⟨q1, hq1, hF⟩ := bnd_some hF
  refine m_callVi C X vX12_isGrotto rfl (kX12_isGrotto O C.2.2.2.2.1 N x2  S q1 hq1) (Nat.le_of_ble_eq_true rfl) (Nat.le_of_ble_eq_true rfl) (Nat.le_of_ble_eq_true rfl) (Nat.le_of_ble_eq_true rfl) rfl hl.1 rfl (Nat.le_of_ble_eq_true rfl) dX12_hire_15 (fun H locs X => ?_)
  refine lv_if_ne (tgt := 27) C.1.1 C.1.2.1 dX12_hire_18 (by decide) (fun h_z => ?_) (fun h_z => ?_)
  · rw [if_neg h_z] at hF
    exact bX12_hire_27 C O X (lv_sub hl [0, 1, 2] rfl) hF
  · rw [if_pos h_z] at hF
    exact bX12_hire_21 C O X (lv_sub hl [0] rfl) hF
noncomputable def fX12_hire_b0 (N : Nat) (x1 : Int32) (x2 : Int32) (S : gS) : Option (Int32 × gS) := lt (sU S 99 4 0) fun S1 => (bnd (fX12_isGuild N x1 S1) fun q1 => (if q1.1 = 0 then fX12_hire_b21 N q1.2 else fX12_hire_b13 N x1 x2 q1.2))
theorem bX12_hire_0 {N : Nat} {x1 : Int32} {x2 : Int32} {S : gS} {H : Heap} {locs : List Loc} {ls : Array Slot} {o : Int32 × gS} (C : gC p s m args meth c cX12_hire 3 RX12 ((some .boolean)) D (mtys cI cS) mord g Am) (O : gO (mcell g cI cS sa) mord g) (X : gX D (mcell g cI cS sa) mord g S s H locs) (hl : lv_has ls 3 [(0, .ref (g 99)), (1, .int x1), (2, .int x2)]) (hF : fX12_hire_b0 N x1 x2 S = some o) : W p l e (rmd 2) s m args below meth c H locs 0 0 (gE below args s D (mtys cI cS) (mcell g cI cS sa) mord g (some (.int o.1)) o.2) (F0 m 0 ls []) := by
  unfold fX12_hire_b0 at hF
  refine lv_aload_n C.1.1 C.1.2.1 dX12_hire_0 rfl (lv_at hl 0 rfl) ?_
  refine lv_iconst (v := 0) C.1.1 C.1.2.1 dX12_hire_1 (by decide) ?_
  obtain ⟨S1, eS1, hF⟩ := lt_some hF
  refine m_p4 C O X eS1 dX12_hire_2 (fun H locs X => ?_)
  refine lv_aload_n C.1.1 C.1.2.1 dX12_hire_5 rfl (lv_at hl 0 rfl) ?_
  refine lv_iload_n C.1.1 C.1.2.1 dX12_hire_6 rfl (lv_at hl 1 rfl) ?_
  obtain ⟨q1, hq1, hF⟩ := bnd_some hF
  refine m_callVi C X vX12_isGuild rfl (kX12_isGuild O C.2.2.2.2.1 N x1  S1 q1 hq1) (Nat.le_of_ble_eq_true rfl) (Nat.le_of_ble_eq_true rfl) (Nat.le_of_ble_eq_true rfl) (Nat.le_of_ble_eq_true rfl) rfl hl.1 rfl (Nat.le_of_ble_eq_true rfl) dX12_hire_7 (fun H locs X => ?_)
  refine lv_if_eq (tgt := 21) C.1.1 C.1.2.1 dX12_hire_10 (by decide) (fun h_z => ?_) (fun h_z => ?_)
  · rw [if_pos h_z] at hF
    exact bX12_hire_21 C O X (lv_sub hl [0] rfl) hF
  · rw [if_neg h_z] at hF
    exact bX12_hire_13 C O X (lv_sub hl [0, 1, 2] rfl) hF
noncomputable def fX12_hire (N : Nat) (x1 : Int32) (x2 : Int32) (S : gS) : Option (Int32 × gS) := fX12_hire_b0 N x1 x2 S
theorem kX12_hire {l : Launch} {D : va_G} {g : Nat → Nat} {cI cS : ClassId} {sa : Nat → Nat → Option Nat} {Am : (Nat → Prop) → State → Heap → Prop} (O : gO (mcell g cI cS sa) mord g) (P : gAm Am) (N : Nat) (x1 : Int32) (x2 : Int32) (S : gS) (o : Int32 × gS) (hF : fX12_hire N x1 x2 S = some o) : gM l yX12_hire cX12_hire 3 ((some .boolean)) 2 D (mtys cI cS) (mcell g cI cS sa) mord g Am [.ref (g 99), .int x1, .int x2] S (some (.int o.1)) o.2 :=
  gM_of O P (by decide) (Nat.le_of_ble_eq_true rfl) (fun p e s m args below meth c ls C X hl => bX12_hire_0 C O X (lv_sub hl [0, 1, 2] rfl) hF)
-- dismiss
noncomputable def fX12_dismiss_b37 (N : Nat) (x1 : Int32) (x2 : Int32) (S : gS) : Option (Int32 × gS) := bnd (fX12_keep N  S) fun q1 => (chk (inb x1 (6)) (lt (sU q1.2 35 (Int32.toNatClampNeg x1) ((-1))) fun S2 => (some (x2, S2))))
theorem bX12_dismiss_37 {N : Nat} {x1 : Int32} {x2 : Int32} {S : gS} {H : Heap} {locs : List Loc} {ls : Array Slot} {o : Int32 × gS} (C : gC p s m args meth c cX12_dismiss 3 RX12 ((some .int)) D (mtys cI cS) mord g Am) (O : gO (mcell g cI cS sa) mord g) (X : gX D (mcell g cI cS sa) mord g S s H locs) (hl : lv_has ls 3 [(0, .ref (g 99)), (1, .int x1), (2, .int x2)]) (hF : fX12_dismiss_b37 N x1 x2 S = some o) : W p l e (rmd 2) s m args below meth c H locs 0 0 (gE below args s D (mtys cI cS) (mcell g cI cS sa) mord g (some (.int o.1)) o.2) (F0 m 37 ls []) := by
  unfold fX12_dismiss_b37 at hF
  refine lv_aload_n C.1.1 C.1.2.1 dX12_dismiss_37 rfl (lv_at hl 0 rfl) ?_
  obtain ⟨q1, hq1, hF⟩ := bnd_some hF
  refine m_callV C X vX12_keep rfl (kX12_keep O C.2.2.2.2.1 N   S q1 hq1) (Nat.le_of_ble_eq_true rfl) (Nat.le_of_ble_eq_true rfl) (Nat.le_of_ble_eq_true rfl) (Nat.le_of_ble_eq_true rfl) rfl hl.1 rfl (Nat.le_of_ble_eq_true rfl) dX12_dismiss_38 (fun H locs X => ?_)
  refine lv_aload_n C.1.1 C.1.2.1 dX12_dismiss_41 rfl (lv_at hl 0 rfl) ?_
  refine m_g35 C X dX12_dismiss_42 ?_
  refine lv_iload_n C.1.1 C.1.2.1 dX12_dismiss_45 rfl (lv_at hl 1 rfl) ?_
  refine lv_iconst (v := (-1)) C.1.1 C.1.2.1 dX12_dismiss_46 (by decide) ?_
  obtain ⟨h_1, hF⟩ := chk_some hF
  obtain ⟨S2, eS2, hF⟩ := lt_some hF
  refine m_w35 C O X  (inb_vp h_1) rfl eS2 dX12_dismiss_47 (fun H locs X => ?_)
  refine lv_iload_n C.1.1 C.1.2.1 dX12_dismiss_48 rfl (lv_at hl 2 rfl) ?_
  cases hF
  exact g_iret C X dX12_dismiss_49
noncomputable def fX12_dismiss_b31 (N : Nat) (S : gS) : Option (Int32 × gS) := bnd (fX12_refuse N 1 S) fun q1 => (some (q1.1, q1.2))
theorem bX12_dismiss_31 {N : Nat} {S : gS} {H : Heap} {locs : List Loc} {ls : Array Slot} {o : Int32 × gS} (C : gC p s m args meth c cX12_dismiss 3 RX12 ((some .int)) D (mtys cI cS) mord g Am) (O : gO (mcell g cI cS sa) mord g) (X : gX D (mcell g cI cS sa) mord g S s H locs) (hl : lv_has ls 3 [(0, .ref (g 99))]) (hF : fX12_dismiss_b31 N S = some o) : W p l e (rmd 2) s m args below meth c H locs 0 0 (gE below args s D (mtys cI cS) (mcell g cI cS sa) mord g (some (.int o.1)) o.2) (F0 m 31 ls []) := by
  unfold fX12_dismiss_b31 at hF
  refine lv_aload_n C.1.1 C.1.2.1 dX12_dismiss_31 rfl (lv_at hl 0 rfl) ?_
  refine lv_iconst (v := 1) C.1.1 C.1.2.1 dX12_dismiss_32 (by decide) ?_
  obtain ⟨q1, hq1, hF⟩ := bnd_some hF
  refine m_callVi C X vX12_refuse rfl (kX12_refuse O C.2.2.2.2.1 N 1  S q1 hq1) (Nat.le_of_ble_eq_true rfl) (Nat.le_of_ble_eq_true rfl) (Nat.le_of_ble_eq_true rfl) (Nat.le_of_ble_eq_true rfl) rfl hl.1 rfl (Nat.le_of_ble_eq_true rfl) dX12_dismiss_33 (fun H locs X => ?_)
  cases hF
  exact g_iret C X dX12_dismiss_36
noncomputable def fX12_dismiss_b19 (N : Nat) (x1 : Int32) (S : gS) : Option (Int32 × gS) := chk (inb x1 (6)) (if (S 35 (Int32.toNatClampNeg x1)) = ((-1)) then fX12_dismiss_b31 N S else fX12_dismiss_b37 N x1 (S 35 (Int32.toNatClampNeg x1)) S)
theorem bX12_dismiss_19 {N : Nat} {x1 : Int32} {S : gS} {H : Heap} {locs : List Loc} {ls : Array Slot} {o : Int32 × gS} (C : gC p s m args meth c cX12_dismiss 3 RX12 ((some .int)) D (mtys cI cS) mord g Am) (O : gO (mcell g cI cS sa) mord g) (X : gX D (mcell g cI cS sa) mord g S s H locs) (hl : lv_has ls 3 [(0, .ref (g 99)), (1, .int x1)]) (hF : fX12_dismiss_b19 N x1 S = some o) : W p l e (rmd 2) s m args below meth c H locs 0 0 (gE below args s D (mtys cI cS) (mcell g cI cS sa) mord g (some (.int o.1)) o.2) (F0 m 19 ls []) := by
  unfold fX12_dismiss_b19 at hF
  refine lv_aload_n C.1.1 C.1.2.1 dX12_dismiss_19 rfl (lv_at hl 0 rfl) ?_
  refine m_g35 C X dX12_dismiss_20 ?_
  refine lv_iload_n C.1.1 C.1.2.1 dX12_dismiss_23 rfl (lv_at hl 1 rfl) ?_
  obtain ⟨h_1, hF⟩ := chk_some hF
  refine m_r35 C X  (inb_vp h_1) rfl dX12_dismiss_24 ?_
  refine lv_istore_n (lv' := [(2, .int (S 35 (Int32.toNatClampNeg x1))), (0, .ref (g 99)), (1, .int x1)]) C.1.1 C.1.2.1 dX12_dismiss_25 rfl hl (by decide) rfl (fun ls hl => ?_)
  refine lv_iload_n C.1.1 C.1.2.1 dX12_dismiss_26 rfl (lv_at hl 0 rfl) ?_
  refine lv_iconst (v := (-1)) C.1.1 C.1.2.1 dX12_dismiss_27 (by decide) ?_
  refine lv_icmp_ne (tgt := 37) C.1.1 C.1.2.1 dX12_dismiss_28 (by decide) (fun h_z => ?_) (fun h_z => ?_)
  · rw [if_neg h_z] at hF
    exact bX12_dismiss_37 C O X (lv_sub hl [1, 2, 0] rfl) hF
  · rw [if_pos h_z] at hF
    exact bX12_dismiss_31 C O X (lv_sub hl [1] rfl) hF
noncomputable def fX12_dismiss_b13 (N : Nat) (S : gS) : Option (Int32 × gS) := bnd (fX12_fail N 1 S) fun q1 => (some (q1.1, q1.2))
theorem bX12_dismiss_13 {N : Nat} {S : gS} {H : Heap} {locs : List Loc} {ls : Array Slot} {o : Int32 × gS} (C : gC p s m args meth c cX12_dismiss 3 RX12 ((some .int)) D (mtys cI cS) mord g Am) (O : gO (mcell g cI cS sa) mord g) (X : gX D (mcell g cI cS sa) mord g S s H locs) (hl : lv_has ls 3 [(0, .ref (g 99))]) (hF : fX12_dismiss_b13 N S = some o) : W p l e (rmd 2) s m args below meth c H locs 0 0 (gE below args s D (mtys cI cS) (mcell g cI cS sa) mord g (some (.int o.1)) o.2) (F0 m 13 ls []) := by
  unfold fX12_dismiss_b13 at hF
  refine lv_aload_n C.1.1 C.1.2.1 dX12_dismiss_13 rfl (lv_at hl 0 rfl) ?_
  refine lv_iconst (v := 1) C.1.1 C.1.2.1 dX12_dismiss_14 (by decide) ?_
  obtain ⟨q1, hq1, hF⟩ := bnd_some hF
  refine m_callVi C X vX12_fail rfl (kX12_fail O C.2.2.2.2.1 N 1  S q1 hq1) (Nat.le_of_ble_eq_true rfl) (Nat.le_of_ble_eq_true rfl) (Nat.le_of_ble_eq_true rfl) (Nat.le_of_ble_eq_true rfl) rfl hl.1 rfl (Nat.le_of_ble_eq_true rfl) dX12_dismiss_15 (fun H locs X => ?_)
  cases hF
  exact g_iret C X dX12_dismiss_18
noncomputable def fX12_dismiss_b0 (N : Nat) (x1 : Int32) (S : gS) : Option (Int32 × gS) := lt (sU S 99 4 0) fun S1 => (bnd (fX12_isGuild N x1 S1) fun q1 => (if q1.1 = 0 then fX12_dismiss_b13 N q1.2 else fX12_dismiss_b19 N x1 q1.2))
theorem bX12_dismiss_0 {N : Nat} {x1 : Int32} {S : gS} {H : Heap} {locs : List Loc} {ls : Array Slot} {o : Int32 × gS} (C : gC p s m args meth c cX12_dismiss 3 RX12 ((some .int)) D (mtys cI cS) mord g Am) (O : gO (mcell g cI cS sa) mord g) (X : gX D (mcell g cI cS sa) mord g S s H locs) (hl : lv_has ls 3 [(0, .ref (g 99)), (1, .int x1)]) (hF : fX12_dismiss_b0 N x1 S = some o) : W p l e (rmd 2) s m args below meth c H locs 0 0 (gE below args s D (mtys cI cS) (mcell g cI cS sa) mord g (some (.int o.1)) o.2) (F0 m 0 ls []) := by
  unfold fX12_dismiss_b0 at hF
  refine lv_aload_n C.1.1 C.1.2.1 dX12_dismiss_0 rfl (lv_at hl 0 rfl) ?_
  refine lv_iconst (v := 0) C.1.1 C.1.2.1 dX12_dismiss_1 (by decide) ?_
  obtain ⟨S1, eS1, hF⟩ := lt_some hF
  refine m_p4 C O X eS1 dX12_dismiss_2 (fun H locs X => ?_)
  refine lv_aload_n C.1.1 C.1.2.1 dX12_dismiss_5 rfl (lv_at hl 0 rfl) ?_
  refine lv_iload_n C.1.1 C.1.2.1 dX12_dismiss_6 rfl (lv_at hl 1 rfl) ?_
  obtain ⟨q1, hq1, hF⟩ := bnd_some hF
  refine m_callVi C X vX12_isGuild rfl (kX12_isGuild O C.2.2.2.2.1 N x1  S1 q1 hq1) (Nat.le_of_ble_eq_true rfl) (Nat.le_of_ble_eq_true rfl) (Nat.le_of_ble_eq_true rfl) (Nat.le_of_ble_eq_true rfl) rfl hl.1 rfl (Nat.le_of_ble_eq_true rfl) dX12_dismiss_7 (fun H locs X => ?_)
  refine lv_if_ne (tgt := 19) C.1.1 C.1.2.1 dX12_dismiss_10 (by decide) (fun h_z => ?_) (fun h_z => ?_)
  · rw [if_neg h_z] at hF
    exact bX12_dismiss_19 C O X (lv_sub hl [0, 1] rfl) hF
  · rw [if_pos h_z] at hF
    exact bX12_dismiss_13 C O X (lv_sub hl [0] rfl) hF
noncomputable def fX12_dismiss (N : Nat) (x1 : Int32) (S : gS) : Option (Int32 × gS) := fX12_dismiss_b0 N x1 S
theorem kX12_dismiss {l : Launch} {D : va_G} {g : Nat → Nat} {cI cS : ClassId} {sa : Nat → Nat → Option Nat} {Am : (Nat → Prop) → State → Heap → Prop} (O : gO (mcell g cI cS sa) mord g) (P : gAm Am) (N : Nat) (x1 : Int32) (S : gS) (o : Int32 × gS) (hF : fX12_dismiss N x1 S = some o) : gM l yX12_dismiss cX12_dismiss 3 ((some .int)) 2 D (mtys cI cS) (mcell g cI cS sa) mord g Am [.ref (g 99), .int x1] S (some (.int o.1)) o.2 :=
  gM_of O P (by decide) (Nat.le_of_ble_eq_true rfl) (fun p e s m args below meth c ls C X hl => bX12_dismiss_0 C O X (lv_sub hl [0, 1] rfl) hF)
-- canConfess
noncomputable def fX12_canConfess_b16 (N : Nat) (t0 : Int32) (S : gS) : Option (Int32 × gS) := chk (zb t0) (some (t0, S))
theorem bX12_canConfess_16 {N : Nat} {t0 : Int32} {S : gS} {H : Heap} {locs : List Loc} {ls : Array Slot} {o : Int32 × gS} (C : gC p s m args meth c cX12_canConfess 2 RX12 ((some .boolean)) D (mtys cI cS) mord g Am) (O : gO (mcell g cI cS sa) mord g) (X : gX D (mcell g cI cS sa) mord g S s H locs) (hl : lv_has ls 2 []) (hF : fX12_canConfess_b16 N t0 S = some o) : W p l e (rmd 0) s m args below meth c H locs 0 0 (gE below args s D (mtys cI cS) (mcell g cI cS sa) mord g (some (.int o.1)) o.2) (F0 m 16 ls [.int t0]) := by
  unfold fX12_canConfess_b16 at hF
  obtain ⟨h_1, hF⟩ := chk_some hF
  cases hF
  exact g_zret C X h_1 dX12_canConfess_16
noncomputable def fX12_canConfess_b15 (N : Nat) (S : gS) : Option (Int32 × gS) := fX12_canConfess_b16 N 0 S
theorem bX12_canConfess_15 {N : Nat} {S : gS} {H : Heap} {locs : List Loc} {ls : Array Slot} {o : Int32 × gS} (C : gC p s m args meth c cX12_canConfess 2 RX12 ((some .boolean)) D (mtys cI cS) mord g Am) (O : gO (mcell g cI cS sa) mord g) (X : gX D (mcell g cI cS sa) mord g S s H locs) (hl : lv_has ls 2 []) (hF : fX12_canConfess_b15 N S = some o) : W p l e (rmd 0) s m args below meth c H locs 0 0 (gE below args s D (mtys cI cS) (mcell g cI cS sa) mord g (some (.int o.1)) o.2) (F0 m 15 ls []) := by
  unfold fX12_canConfess_b15 at hF
  refine lv_iconst (v := 0) C.1.1 C.1.2.1 dX12_canConfess_15 (by decide) ?_
  exact bX12_canConfess_16 C O X (lv_sub hl [] rfl) hF
noncomputable def fX12_canConfess_b11 (N : Nat) (S : gS) : Option (Int32 × gS) := fX12_canConfess_b16 N 1 S
theorem bX12_canConfess_11 {N : Nat} {S : gS} {H : Heap} {locs : List Loc} {ls : Array Slot} {o : Int32 × gS} (C : gC p s m args meth c cX12_canConfess 2 RX12 ((some .boolean)) D (mtys cI cS) mord g Am) (O : gO (mcell g cI cS sa) mord g) (X : gX D (mcell g cI cS sa) mord g S s H locs) (hl : lv_has ls 2 []) (hF : fX12_canConfess_b11 N S = some o) : W p l e (rmd 0) s m args below meth c H locs 0 0 (gE below args s D (mtys cI cS) (mcell g cI cS sa) mord g (some (.int o.1)) o.2) (F0 m 11 ls []) := by
  unfold fX12_canConfess_b11 at hF
  refine lv_iconst (v := 1) C.1.1 C.1.2.1 dX12_canConfess_11 (by decide) ?_
  refine lv_goto (tgt := 16) C.1.1 C.1.2.1 dX12_canConfess_12 (by decide) ?_
  exact bX12_canConfess_16 C O X (lv_sub hl [] rfl) hF
noncomputable def fX12_canConfess_b0 (N : Nat) (x1 : Int32) (S : gS) : Option (Int32 × gS) := chk (inb x1 (6)) (if (S 33 (Int32.toNatClampNeg x1)) < 50 then fX12_canConfess_b15 N S else fX12_canConfess_b11 N S)
theorem bX12_canConfess_0 {N : Nat} {x1 : Int32} {S : gS} {H : Heap} {locs : List Loc} {ls : Array Slot} {o : Int32 × gS} (C : gC p s m args meth c cX12_canConfess 2 RX12 ((some .boolean)) D (mtys cI cS) mord g Am) (O : gO (mcell g cI cS sa) mord g) (X : gX D (mcell g cI cS sa) mord g S s H locs) (hl : lv_has ls 2 [(0, .ref (g 99)), (1, .int x1)]) (hF : fX12_canConfess_b0 N x1 S = some o) : W p l e (rmd 0) s m args below meth c H locs 0 0 (gE below args s D (mtys cI cS) (mcell g cI cS sa) mord g (some (.int o.1)) o.2) (F0 m 0 ls []) := by
  unfold fX12_canConfess_b0 at hF
  refine lv_aload_n C.1.1 C.1.2.1 dX12_canConfess_0 rfl (lv_at hl 0 rfl) ?_
  refine m_g33 C X dX12_canConfess_1 ?_
  refine lv_iload_n C.1.1 C.1.2.1 dX12_canConfess_4 rfl (lv_at hl 1 rfl) ?_
  obtain ⟨h_1, hF⟩ := chk_some hF
  refine m_r33 C X  (inb_vp h_1) rfl dX12_canConfess_5 ?_
  refine lv_bipush (v := 50) C.1.1 C.1.2.1 dX12_canConfess_6 (by decide) ?_
  refine lv_icmp_lt (tgt := 15) C.1.1 C.1.2.1 dX12_canConfess_8 (by decide) (fun h_z => ?_) (fun h_z => ?_)
  · rw [if_pos h_z] at hF
    exact bX12_canConfess_15 C O X (lv_sub hl [] rfl) hF
  · rw [if_neg h_z] at hF
    exact bX12_canConfess_11 C O X (lv_sub hl [] rfl) hF
noncomputable def fX12_canConfess (N : Nat) (x1 : Int32) (S : gS) : Option (Int32 × gS) := fX12_canConfess_b0 N x1 S
theorem kX12_canConfess {l : Launch} {D : va_G} {g : Nat → Nat} {cI cS : ClassId} {sa : Nat → Nat → Option Nat} {Am : (Nat → Prop) → State → Heap → Prop} (O : gO (mcell g cI cS sa) mord g) (P : gAm Am) (N : Nat) (x1 : Int32) (S : gS) (o : Int32 × gS) (hF : fX12_canConfess N x1 S = some o) : gM l yX12_canConfess cX12_canConfess 2 ((some .boolean)) 0 D (mtys cI cS) (mcell g cI cS sa) mord g Am [.ref (g 99), .int x1] S (some (.int o.1)) o.2 :=
  gM_of O P (by decide) (Nat.le_of_ble_eq_true rfl) (fun p e s m args below meth c ls C X hl => bX12_canConfess_0 C O X (lv_sub hl [0, 1] rfl) hF)
-- doConfess
noncomputable def fX12_doConfess_b0 (N : Nat) (x1 : Int32) (S : gS) : Option (Int32 × gS) := chk (inb x1 (6)) (chk (inb x1 (6)) (lt (sU S 33 (Int32.toNatClampNeg x1) (((S 33 (Int32.toNatClampNeg x1)) - 50 : Int32))) fun S1 => (chk (inb x1 (6)) (chk (inb x1 (6)) (lt (sU S1 32 (Int32.toNatClampNeg x1) (((S1 32 (Int32.toNatClampNeg x1)) / 2 : Int32))) fun S2 => (some (0, S2)))))))
theorem bX12_doConfess_0 {N : Nat} {x1 : Int32} {S : gS} {H : Heap} {locs : List Loc} {ls : Array Slot} {o : Int32 × gS} (C : gC p s m args meth c cX12_doConfess 2 RX12 none D (mtys cI cS) mord g Am) (O : gO (mcell g cI cS sa) mord g) (X : gX D (mcell g cI cS sa) mord g S s H locs) (hl : lv_has ls 2 [(0, .ref (g 99)), (1, .int x1)]) (hF : fX12_doConfess_b0 N x1 S = some o) : W p l e (rmd 0) s m args below meth c H locs 0 0 (gE below args s D (mtys cI cS) (mcell g cI cS sa) mord g none o.2) (F0 m 0 ls []) := by
  unfold fX12_doConfess_b0 at hF
  refine lv_aload_n C.1.1 C.1.2.1 dX12_doConfess_0 rfl (lv_at hl 0 rfl) ?_
  refine m_g33 C X dX12_doConfess_1 ?_
  refine lv_iload_n C.1.1 C.1.2.1 dX12_doConfess_4 rfl (lv_at hl 1 rfl) ?_
  refine lv_dup2_11 C.1.1 C.1.2.1 dX12_doConfess_5 rfl rfl ?_
  obtain ⟨h_1, hF⟩ := chk_some hF
  refine m_r33 C X  (inb_vp h_1) rfl dX12_doConfess_6 ?_
  refine lv_bipush (v := 50) C.1.1 C.1.2.1 dX12_doConfess_7 (by decide) ?_
  refine lv_isub C.1.1 C.1.2.1 dX12_doConfess_9 ?_
  obtain ⟨h_2, hF⟩ := chk_some hF
  obtain ⟨S1, eS1, hF⟩ := lt_some hF
  refine m_w33 C O X  (inb_vp h_2) rfl eS1 dX12_doConfess_10 (fun H locs X => ?_)
  refine lv_aload_n C.1.1 C.1.2.1 dX12_doConfess_11 rfl (lv_at hl 0 rfl) ?_
  refine m_g32 C X dX12_doConfess_12 ?_
  refine lv_iload_n C.1.1 C.1.2.1 dX12_doConfess_15 rfl (lv_at hl 1 rfl) ?_
  refine lv_dup2_11 C.1.1 C.1.2.1 dX12_doConfess_16 rfl rfl ?_
  obtain ⟨h_3, hF⟩ := chk_some hF
  refine m_r32 C X  (inb_vp h_3) rfl dX12_doConfess_17 ?_
  refine lv_iconst (v := 2) C.1.1 C.1.2.1 dX12_doConfess_18 (by decide) ?_
  refine lv_idiv C.1.1 C.1.2.1 dX12_doConfess_19 (by decide) ?_
  obtain ⟨h_4, hF⟩ := chk_some hF
  obtain ⟨S2, eS2, hF⟩ := lt_some hF
  refine m_w32 C O X  (inb_vp h_4) rfl eS2 dX12_doConfess_20 (fun H locs X => ?_)
  cases hF
  exact g_vret C X dX12_doConfess_21
noncomputable def fX12_doConfess (N : Nat) (x1 : Int32) (S : gS) : Option (Int32 × gS) := fX12_doConfess_b0 N x1 S
theorem kX12_doConfess {l : Launch} {D : va_G} {g : Nat → Nat} {cI cS : ClassId} {sa : Nat → Nat → Option Nat} {Am : (Nat → Prop) → State → Heap → Prop} (O : gO (mcell g cI cS sa) mord g) (P : gAm Am) (N : Nat) (x1 : Int32) (S : gS) (o : Int32 × gS) (hF : fX12_doConfess N x1 S = some o) : gM l yX12_doConfess cX12_doConfess 2 none 0 D (mtys cI cS) (mcell g cI cS sa) mord g Am [.ref (g 99), .int x1] S none o.2 :=
  gM_of O P (by decide) (Nat.le_of_ble_eq_true rfl) (fun p e s m args below meth c ls C X hl => bX12_doConfess_0 C O X (lv_sub hl [0, 1] rfl) hF)
-- confess
noncomputable def fX12_confess_b33 (N : Nat) (x1 : Int32) (S : gS) : Option (Int32 × gS) := bnd (fX12_keep N  S) fun q1 => (bnd (fX12_doConfess N x1 q1.2) fun q2 => (chk (inb x1 (6)) (some (q2.2 32 (Int32.toNatClampNeg x1), q2.2))))
theorem bX12_confess_33 {N : Nat} {x1 : Int32} {S : gS} {H : Heap} {locs : List Loc} {ls : Array Slot} {o : Int32 × gS} (C : gC p s m args meth c cX12_confess 2 RX12 ((some .int)) D (mtys cI cS) mord g Am) (O : gO (mcell g cI cS sa) mord g) (X : gX D (mcell g cI cS sa) mord g S s H locs) (hl : lv_has ls 2 [(0, .ref (g 99)), (1, .int x1)]) (hF : fX12_confess_b33 N x1 S = some o) : W p l e (rmd 2) s m args below meth c H locs 0 0 (gE below args s D (mtys cI cS) (mcell g cI cS sa) mord g (some (.int o.1)) o.2) (F0 m 33 ls []) := by
  unfold fX12_confess_b33 at hF
  refine lv_aload_n C.1.1 C.1.2.1 dX12_confess_33 rfl (lv_at hl 0 rfl) ?_
  obtain ⟨q1, hq1, hF⟩ := bnd_some hF
  refine m_callV C X vX12_keep rfl (kX12_keep O C.2.2.2.2.1 N   S q1 hq1) (Nat.le_of_ble_eq_true rfl) (Nat.le_of_ble_eq_true rfl) (Nat.le_of_ble_eq_true rfl) (Nat.le_of_ble_eq_true rfl) rfl hl.1 rfl (Nat.le_of_ble_eq_true rfl) dX12_confess_34 (fun H locs X => ?_)
  refine lv_aload_n C.1.1 C.1.2.1 dX12_confess_37 rfl (lv_at hl 0 rfl) ?_
  refine lv_iload_n C.1.1 C.1.2.1 dX12_confess_38 rfl (lv_at hl 1 rfl) ?_
  obtain ⟨q2, hq2, hF⟩ := bnd_some hF
  refine m_callV C X vX12_doConfess rfl (kX12_doConfess O C.2.2.2.2.1 N x1  q1.2 q2 hq2) (Nat.le_of_ble_eq_true rfl) (Nat.le_of_ble_eq_true rfl) (Nat.le_of_ble_eq_true rfl) (Nat.le_of_ble_eq_true rfl) rfl hl.1 rfl (Nat.le_of_ble_eq_true rfl) dX12_confess_39 (fun H locs X => ?_)
  refine lv_aload_n C.1.1 C.1.2.1 dX12_confess_42 rfl (lv_at hl 0 rfl) ?_
  refine m_g32 C X dX12_confess_43 ?_
  refine lv_iload_n C.1.1 C.1.2.1 dX12_confess_46 rfl (lv_at hl 1 rfl) ?_
  obtain ⟨h_1, hF⟩ := chk_some hF
  refine m_r32 C X  (inb_vp h_1) rfl dX12_confess_47 ?_
  cases hF
  exact g_iret C X dX12_confess_48
noncomputable def fX12_confess_b27 (N : Nat) (S : gS) : Option (Int32 × gS) := bnd (fX12_refuse N 1 S) fun q1 => (some (q1.1, q1.2))
theorem bX12_confess_27 {N : Nat} {S : gS} {H : Heap} {locs : List Loc} {ls : Array Slot} {o : Int32 × gS} (C : gC p s m args meth c cX12_confess 2 RX12 ((some .int)) D (mtys cI cS) mord g Am) (O : gO (mcell g cI cS sa) mord g) (X : gX D (mcell g cI cS sa) mord g S s H locs) (hl : lv_has ls 2 [(0, .ref (g 99))]) (hF : fX12_confess_b27 N S = some o) : W p l e (rmd 2) s m args below meth c H locs 0 0 (gE below args s D (mtys cI cS) (mcell g cI cS sa) mord g (some (.int o.1)) o.2) (F0 m 27 ls []) := by
  unfold fX12_confess_b27 at hF
  refine lv_aload_n C.1.1 C.1.2.1 dX12_confess_27 rfl (lv_at hl 0 rfl) ?_
  refine lv_iconst (v := 1) C.1.1 C.1.2.1 dX12_confess_28 (by decide) ?_
  obtain ⟨q1, hq1, hF⟩ := bnd_some hF
  refine m_callVi C X vX12_refuse rfl (kX12_refuse O C.2.2.2.2.1 N 1  S q1 hq1) (Nat.le_of_ble_eq_true rfl) (Nat.le_of_ble_eq_true rfl) (Nat.le_of_ble_eq_true rfl) (Nat.le_of_ble_eq_true rfl) rfl hl.1 rfl (Nat.le_of_ble_eq_true rfl) dX12_confess_29 (fun H locs X => ?_)
  cases hF
  exact g_iret C X dX12_confess_32
noncomputable def fX12_confess_b19 (N : Nat) (x1 : Int32) (S : gS) : Option (Int32 × gS) := bnd (fX12_canConfess N x1 S) fun q1 => (if q1.1 = 0 then fX12_confess_b27 N q1.2 else fX12_confess_b33 N x1 q1.2)
theorem bX12_confess_19 {N : Nat} {x1 : Int32} {S : gS} {H : Heap} {locs : List Loc} {ls : Array Slot} {o : Int32 × gS} (C : gC p s m args meth c cX12_confess 2 RX12 ((some .int)) D (mtys cI cS) mord g Am) (O : gO (mcell g cI cS sa) mord g) (X : gX D (mcell g cI cS sa) mord g S s H locs) (hl : lv_has ls 2 [(0, .ref (g 99)), (1, .int x1)]) (hF : fX12_confess_b19 N x1 S = some o) : W p l e (rmd 2) s m args below meth c H locs 0 0 (gE below args s D (mtys cI cS) (mcell g cI cS sa) mord g (some (.int o.1)) o.2) (F0 m 19 ls []) := by
  unfold fX12_confess_b19 at hF
  refine lv_aload_n C.1.1 C.1.2.1 dX12_confess_19 rfl (lv_at hl 0 rfl) ?_
  refine lv_iload_n C.1.1 C.1.2.1 dX12_confess_20 rfl (lv_at hl 1 rfl) ?_
  obtain ⟨q1, hq1, hF⟩ := bnd_some hF
  refine m_callVi C X vX12_canConfess rfl (kX12_canConfess O C.2.2.2.2.1 N x1  S q1 hq1) (Nat.le_of_ble_eq_true rfl) (Nat.le_of_ble_eq_true rfl) (Nat.le_of_ble_eq_true rfl) (Nat.le_of_ble_eq_true rfl) rfl hl.1 rfl (Nat.le_of_ble_eq_true rfl) dX12_confess_21 (fun H locs X => ?_)
  refine lv_if_ne (tgt := 33) C.1.1 C.1.2.1 dX12_confess_24 (by decide) (fun h_z => ?_) (fun h_z => ?_)
  · rw [if_neg h_z] at hF
    exact bX12_confess_33 C O X (lv_sub hl [0, 1] rfl) hF
  · rw [if_pos h_z] at hF
    exact bX12_confess_27 C O X (lv_sub hl [0] rfl) hF
noncomputable def fX12_confess_b13 (N : Nat) (S : gS) : Option (Int32 × gS) := bnd (fX12_fail N 1 S) fun q1 => (some (q1.1, q1.2))
theorem bX12_confess_13 {N : Nat} {S : gS} {H : Heap} {locs : List Loc} {ls : Array Slot} {o : Int32 × gS} (C : gC p s m args meth c cX12_confess 2 RX12 ((some .int)) D (mtys cI cS) mord g Am) (O : gO (mcell g cI cS sa) mord g) (X : gX D (mcell g cI cS sa) mord g S s H locs) (hl : lv_has ls 2 [(0, .ref (g 99))]) (hF : fX12_confess_b13 N S = some o) : W p l e (rmd 2) s m args below meth c H locs 0 0 (gE below args s D (mtys cI cS) (mcell g cI cS sa) mord g (some (.int o.1)) o.2) (F0 m 13 ls []) := by
  unfold fX12_confess_b13 at hF
  refine lv_aload_n C.1.1 C.1.2.1 dX12_confess_13 rfl (lv_at hl 0 rfl) ?_
  refine lv_iconst (v := 1) C.1.1 C.1.2.1 dX12_confess_14 (by decide) ?_
  obtain ⟨q1, hq1, hF⟩ := bnd_some hF
  refine m_callVi C X vX12_fail rfl (kX12_fail O C.2.2.2.2.1 N 1  S q1 hq1) (Nat.le_of_ble_eq_true rfl) (Nat.le_of_ble_eq_true rfl) (Nat.le_of_ble_eq_true rfl) (Nat.le_of_ble_eq_true rfl) rfl hl.1 rfl (Nat.le_of_ble_eq_true rfl) dX12_confess_15 (fun H locs X => ?_)
  cases hF
  exact g_iret C X dX12_confess_18
noncomputable def fX12_confess_b0 (N : Nat) (x1 : Int32) (S : gS) : Option (Int32 × gS) := lt (sU S 99 4 0) fun S1 => (bnd (fX12_isGuild N x1 S1) fun q1 => (if q1.1 = 0 then fX12_confess_b13 N q1.2 else fX12_confess_b19 N x1 q1.2))
theorem bX12_confess_0 {N : Nat} {x1 : Int32} {S : gS} {H : Heap} {locs : List Loc} {ls : Array Slot} {o : Int32 × gS} (C : gC p s m args meth c cX12_confess 2 RX12 ((some .int)) D (mtys cI cS) mord g Am) (O : gO (mcell g cI cS sa) mord g) (X : gX D (mcell g cI cS sa) mord g S s H locs) (hl : lv_has ls 2 [(0, .ref (g 99)), (1, .int x1)]) (hF : fX12_confess_b0 N x1 S = some o) : W p l e (rmd 2) s m args below meth c H locs 0 0 (gE below args s D (mtys cI cS) (mcell g cI cS sa) mord g (some (.int o.1)) o.2) (F0 m 0 ls []) := by
  unfold fX12_confess_b0 at hF
  refine lv_aload_n C.1.1 C.1.2.1 dX12_confess_0 rfl (lv_at hl 0 rfl) ?_
  refine lv_iconst (v := 0) C.1.1 C.1.2.1 dX12_confess_1 (by decide) ?_
  obtain ⟨S1, eS1, hF⟩ := lt_some hF
  refine m_p4 C O X eS1 dX12_confess_2 (fun H locs X => ?_)
  refine lv_aload_n C.1.1 C.1.2.1 dX12_confess_5 rfl (lv_at hl 0 rfl) ?_
  refine lv_iload_n C.1.1 C.1.2.1 dX12_confess_6 rfl (lv_at hl 1 rfl) ?_
  obtain ⟨q1, hq1, hF⟩ := bnd_some hF
  refine m_callVi C X vX12_isGuild rfl (kX12_isGuild O C.2.2.2.2.1 N x1  S1 q1 hq1) (Nat.le_of_ble_eq_true rfl) (Nat.le_of_ble_eq_true rfl) (Nat.le_of_ble_eq_true rfl) (Nat.le_of_ble_eq_true rfl) rfl hl.1 rfl (Nat.le_of_ble_eq_true rfl) dX12_confess_7 (fun H locs X => ?_)
  refine lv_if_ne (tgt := 19) C.1.1 C.1.2.1 dX12_confess_10 (by decide) (fun h_z => ?_) (fun h_z => ?_)
  · rw [if_neg h_z] at hF
    exact bX12_confess_19 C O X (lv_sub hl [0, 1] rfl) hF
  · rw [if_pos h_z] at hF
    exact bX12_confess_13 C O X (lv_sub hl [0] rfl) hF
noncomputable def fX12_confess (N : Nat) (x1 : Int32) (S : gS) : Option (Int32 × gS) := fX12_confess_b0 N x1 S
theorem kX12_confess {l : Launch} {D : va_G} {g : Nat → Nat} {cI cS : ClassId} {sa : Nat → Nat → Option Nat} {Am : (Nat → Prop) → State → Heap → Prop} (O : gO (mcell g cI cS sa) mord g) (P : gAm Am) (N : Nat) (x1 : Int32) (S : gS) (o : Int32 × gS) (hF : fX12_confess N x1 S = some o) : gM l yX12_confess cX12_confess 2 ((some .int)) 2 D (mtys cI cS) (mcell g cI cS sa) mord g Am [.ref (g 99), .int x1] S (some (.int o.1)) o.2 :=
  gM_of O P (by decide) (Nat.le_of_ble_eq_true rfl) (fun p e s m args below meth c ls C X hl => bX12_confess_0 C O X (lv_sub hl [0, 1] rfl) hF)
-- drain
noncomputable def fX12_drain_b36 (N : Nat) (x1 : Int32) (S : gS) : Option (Int32 × gS) := bnd (fX12_keep N  S) fun q1 => (lt (sU q1.2 99 38 (((q1.2 99 38) ^^^ (((1 : Int32) <<< (x1 &&& 31) : Int32)) : Int32))) fun S2 => (some (1, S2)))
theorem bX12_drain_36 {N : Nat} {x1 : Int32} {S : gS} {H : Heap} {locs : List Loc} {ls : Array Slot} {o : Int32 × gS} (C : gC p s m args meth c cX12_drain 3 RX12 ((some .boolean)) D (mtys cI cS) mord g Am) (O : gO (mcell g cI cS sa) mord g) (X : gX D (mcell g cI cS sa) mord g S s H locs) (hl : lv_has ls 3 [(0, .ref (g 99)), (1, .int x1)]) (hF : fX12_drain_b36 N x1 S = some o) : W p l e (rmd 2) s m args below meth c H locs 0 0 (gE below args s D (mtys cI cS) (mcell g cI cS sa) mord g (some (.int o.1)) o.2) (F0 m 36 ls []) := by
  unfold fX12_drain_b36 at hF
  refine lv_aload_n C.1.1 C.1.2.1 dX12_drain_36 rfl (lv_at hl 0 rfl) ?_
  obtain ⟨q1, hq1, hF⟩ := bnd_some hF
  refine m_callV C X vX12_keep rfl (kX12_keep O C.2.2.2.2.1 N   S q1 hq1) (Nat.le_of_ble_eq_true rfl) (Nat.le_of_ble_eq_true rfl) (Nat.le_of_ble_eq_true rfl) (Nat.le_of_ble_eq_true rfl) rfl hl.1 rfl (Nat.le_of_ble_eq_true rfl) dX12_drain_37 (fun H locs X => ?_)
  refine lv_aload_n C.1.1 C.1.2.1 dX12_drain_40 rfl (lv_at hl 0 rfl) ?_
  refine lv_dup C.1.1 C.1.2.1 dX12_drain_41 rfl ?_
  refine m_g38 C X dX12_drain_42 ?_
  refine lv_iconst (v := 1) C.1.1 C.1.2.1 dX12_drain_45 (by decide) ?_
  refine lv_iload_n C.1.1 C.1.2.1 dX12_drain_46 rfl (lv_at hl 1 rfl) ?_
  refine lv_ishl C.1.1 C.1.2.1 dX12_drain_47 ?_
  refine lv_ixor C.1.1 C.1.2.1 dX12_drain_48 ?_
  obtain ⟨S2, eS2, hF⟩ := lt_some hF
  refine m_p38 C O X eS2 dX12_drain_49 (fun H locs X => ?_)
  refine lv_iconst (v := 1) C.1.1 C.1.2.1 dX12_drain_52 (by decide) ?_
  cases hF
  exact g_zret (x := 1) C X (by decide) dX12_drain_53
noncomputable def fX12_drain_b31 (N : Nat) (S : gS) : Option (Int32 × gS) := bnd (fX12_refused N  S) fun q1 => (chk (zb q1.1) (some (q1.1, q1.2)))
theorem bX12_drain_31 {N : Nat} {S : gS} {H : Heap} {locs : List Loc} {ls : Array Slot} {o : Int32 × gS} (C : gC p s m args meth c cX12_drain 3 RX12 ((some .boolean)) D (mtys cI cS) mord g Am) (O : gO (mcell g cI cS sa) mord g) (X : gX D (mcell g cI cS sa) mord g S s H locs) (hl : lv_has ls 3 [(0, .ref (g 99))]) (hF : fX12_drain_b31 N S = some o) : W p l e (rmd 2) s m args below meth c H locs 0 0 (gE below args s D (mtys cI cS) (mcell g cI cS sa) mord g (some (.int o.1)) o.2) (F0 m 31 ls []) := by
  unfold fX12_drain_b31 at hF
  refine lv_aload_n C.1.1 C.1.2.1 dX12_drain_31 rfl (lv_at hl 0 rfl) ?_
  obtain ⟨q1, hq1, hF⟩ := bnd_some hF
  refine m_callVi C X vX12_refused rfl (kX12_refused O C.2.2.2.2.1 N   S q1 hq1) (Nat.le_of_ble_eq_true rfl) (Nat.le_of_ble_eq_true rfl) (Nat.le_of_ble_eq_true rfl) (Nat.le_of_ble_eq_true rfl) rfl hl.1 rfl (Nat.le_of_ble_eq_true rfl) dX12_drain_32 (fun H locs X => ?_)
  obtain ⟨h_1, hF⟩ := chk_some hF
  cases hF
  exact g_zret C X h_1 dX12_drain_35
noncomputable def fX12_drain_b19 (N : Nat) (x1 : Int32) (x2 : Int32) (S : gS) : Option (Int32 × gS) := bnd (fX12_isOf N (S 99 38) x1 S) fun q1 => (if q1.1 = x2 then fX12_drain_b31 N q1.2 else fX12_drain_b36 N x1 q1.2)
theorem bX12_drain_19 {N : Nat} {x1 : Int32} {x2 : Int32} {S : gS} {H : Heap} {locs : List Loc} {ls : Array Slot} {o : Int32 × gS} (C : gC p s m args meth c cX12_drain 3 RX12 ((some .boolean)) D (mtys cI cS) mord g Am) (O : gO (mcell g cI cS sa) mord g) (X : gX D (mcell g cI cS sa) mord g S s H locs) (hl : lv_has ls 3 [(0, .ref (g 99)), (1, .int x1), (2, .int x2)]) (hF : fX12_drain_b19 N x1 x2 S = some o) : W p l e (rmd 2) s m args below meth c H locs 0 0 (gE below args s D (mtys cI cS) (mcell g cI cS sa) mord g (some (.int o.1)) o.2) (F0 m 19 ls []) := by
  unfold fX12_drain_b19 at hF
  refine lv_aload_n C.1.1 C.1.2.1 dX12_drain_19 rfl (lv_at hl 0 rfl) ?_
  refine m_g38 C X dX12_drain_20 ?_
  refine lv_iload_n C.1.1 C.1.2.1 dX12_drain_23 rfl (lv_at hl 1 rfl) ?_
  obtain ⟨q1, hq1, hF⟩ := bnd_some hF
  refine g_callSi C X vX12_isOf (kX12_isOf O C.2.2.2.2.1 N (S 99 38) x1  S q1 hq1) (Nat.le_of_ble_eq_true rfl) (Nat.le_of_ble_eq_true rfl) (Nat.le_of_ble_eq_true rfl) (Nat.le_of_ble_eq_true rfl) rfl hl.1 rfl (Nat.le_of_ble_eq_true rfl) dX12_drain_24 (fun H locs X => ?_)
  refine lv_iload_n C.1.1 C.1.2.1 dX12_drain_27 rfl (lv_at hl 2 rfl) ?_
  refine lv_icmp_ne (tgt := 36) C.1.1 C.1.2.1 dX12_drain_28 (by decide) (fun h_z => ?_) (fun h_z => ?_)
  · rw [if_neg h_z] at hF
    exact bX12_drain_36 C O X (lv_sub hl [0, 1] rfl) hF
  · rw [if_pos h_z] at hF
    exact bX12_drain_31 C O X (lv_sub hl [0] rfl) hF
noncomputable def fX12_drain_b13 (N : Nat) (S : gS) : Option (Int32 × gS) := bnd (fX12_failing N 1 S) fun q1 => (chk (zb q1.1) (some (q1.1, q1.2)))
theorem bX12_drain_13 {N : Nat} {S : gS} {H : Heap} {locs : List Loc} {ls : Array Slot} {o : Int32 × gS} (C : gC p s m args meth c cX12_drain 3 RX12 ((some .boolean)) D (mtys cI cS) mord g Am) (O : gO (mcell g cI cS sa) mord g) (X : gX D (mcell g cI cS sa) mord g S s H locs) (hl : lv_has ls 3 [(0, .ref (g 99))]) (hF : fX12_drain_b13 N S = some o) : W p l e (rmd 2) s m args below meth c H locs 0 0 (gE below args s D (mtys cI cS) (mcell g cI cS sa) mord g (some (.int o.1)) o.2) (F0 m 13 ls []) := by
  unfold fX12_drain_b13 at hF
  refine lv_aload_n C.1.1 C.1.2.1 dX12_drain_13 rfl (lv_at hl 0 rfl) ?_
  refine lv_iconst (v := 1) C.1.1 C.1.2.1 dX12_drain_14 (by decide) ?_
  obtain ⟨q1, hq1, hF⟩ := bnd_some hF
  refine m_callVi C X vX12_failing rfl (kX12_failing O C.2.2.2.2.1 N 1  S q1 hq1) (Nat.le_of_ble_eq_true rfl) (Nat.le_of_ble_eq_true rfl) (Nat.le_of_ble_eq_true rfl) (Nat.le_of_ble_eq_true rfl) rfl hl.1 rfl (Nat.le_of_ble_eq_true rfl) dX12_drain_15 (fun H locs X => ?_)
  obtain ⟨h_1, hF⟩ := chk_some hF
  cases hF
  exact g_zret C X h_1 dX12_drain_18
noncomputable def fX12_drain_b0 (N : Nat) (x1 : Int32) (x2 : Int32) (S : gS) : Option (Int32 × gS) := lt (sU S 99 4 0) fun S1 => (bnd (fX12_isGrotto N x1 S1) fun q1 => (if q1.1 = 0 then fX12_drain_b13 N q1.2 else fX12_drain_b19 N x1 x2 q1.2))
theorem bX12_drain_0 {N : Nat} {x1 : Int32} {x2 : Int32} {S : gS} {H : Heap} {locs : List Loc} {ls : Array Slot} {o : Int32 × gS} (C : gC p s m args meth c cX12_drain 3 RX12 ((some .boolean)) D (mtys cI cS) mord g Am) (O : gO (mcell g cI cS sa) mord g) (X : gX D (mcell g cI cS sa) mord g S s H locs) (hl : lv_has ls 3 [(0, .ref (g 99)), (1, .int x1), (2, .int x2)]) (hF : fX12_drain_b0 N x1 x2 S = some o) : W p l e (rmd 2) s m args below meth c H locs 0 0 (gE below args s D (mtys cI cS) (mcell g cI cS sa) mord g (some (.int o.1)) o.2) (F0 m 0 ls []) := by
  unfold fX12_drain_b0 at hF
  refine lv_aload_n C.1.1 C.1.2.1 dX12_drain_0 rfl (lv_at hl 0 rfl) ?_
  refine lv_iconst (v := 0) C.1.1 C.1.2.1 dX12_drain_1 (by decide) ?_
  obtain ⟨S1, eS1, hF⟩ := lt_some hF
  refine m_p4 C O X eS1 dX12_drain_2 (fun H locs X => ?_)
  refine lv_aload_n C.1.1 C.1.2.1 dX12_drain_5 rfl (lv_at hl 0 rfl) ?_
  refine lv_iload_n C.1.1 C.1.2.1 dX12_drain_6 rfl (lv_at hl 1 rfl) ?_
  obtain ⟨q1, hq1, hF⟩ := bnd_some hF
  refine m_callVi C X vX12_isGrotto rfl (kX12_isGrotto O C.2.2.2.2.1 N x1  S1 q1 hq1) (Nat.le_of_ble_eq_true rfl) (Nat.le_of_ble_eq_true rfl) (Nat.le_of_ble_eq_true rfl) (Nat.le_of_ble_eq_true rfl) rfl hl.1 rfl (Nat.le_of_ble_eq_true rfl) dX12_drain_7 (fun H locs X => ?_)
  refine lv_if_ne (tgt := 19) C.1.1 C.1.2.1 dX12_drain_10 (by decide) (fun h_z => ?_) (fun h_z => ?_)
  · rw [if_neg h_z] at hF
    exact bX12_drain_19 C O X (lv_sub hl [0, 1, 2] rfl) hF
  · rw [if_pos h_z] at hF
    exact bX12_drain_13 C O X (lv_sub hl [0] rfl) hF
noncomputable def fX12_drain (N : Nat) (x1 : Int32) (x2 : Int32) (S : gS) : Option (Int32 × gS) := fX12_drain_b0 N x1 x2 S
theorem kX12_drain {l : Launch} {D : va_G} {g : Nat → Nat} {cI cS : ClassId} {sa : Nat → Nat → Option Nat} {Am : (Nat → Prop) → State → Heap → Prop} (O : gO (mcell g cI cS sa) mord g) (P : gAm Am) (N : Nat) (x1 : Int32) (x2 : Int32) (S : gS) (o : Int32 × gS) (hF : fX12_drain N x1 x2 S = some o) : gM l yX12_drain cX12_drain 3 ((some .boolean)) 2 D (mtys cI cS) (mcell g cI cS sa) mord g Am [.ref (g 99), .int x1, .int x2] S (some (.int o.1)) o.2 :=
  gM_of O P (by decide) (Nat.le_of_ble_eq_true rfl) (fun p e s m args below meth c ls C X hl => bX12_drain_0 C O X (lv_sub hl [0, 1, 2] rfl) hF)
-- give
noncomputable def fX12_give_b37 (N : Nat) (x1 : Int32) (x2 : Int32) (S : gS) : Option (Int32 × gS) := bnd (fX12_keep N  S) fun q1 => (chk (inb x1 (6)) (chk (inb x1 (6)) (lt (sU q1.2 33 (Int32.toNatClampNeg x1) (if (((q1.2 33 (Int32.toNatClampNeg x1)) + x2 : Int32)) < 999 then (((q1.2 33 (Int32.toNatClampNeg x1)) + x2 : Int32)) else 999)) fun S2 => (chk (inb x1 (6)) (some (S2 33 (Int32.toNatClampNeg x1), S2))))))
theorem bX12_give_37 {N : Nat} {x1 : Int32} {x2 : Int32} {S : gS} {H : Heap} {locs : List Loc} {ls : Array Slot} {o : Int32 × gS} (C : gC p s m args meth c cX12_give 3 RX12 ((some .int)) D (mtys cI cS) mord g Am) (O : gO (mcell g cI cS sa) mord g) (X : gX D (mcell g cI cS sa) mord g S s H locs) (hl : lv_has ls 3 [(0, .ref (g 99)), (1, .int x1), (2, .int x2)]) (hF : fX12_give_b37 N x1 x2 S = some o) : W p l e (rmd 2) s m args below meth c H locs 0 0 (gE below args s D (mtys cI cS) (mcell g cI cS sa) mord g (some (.int o.1)) o.2) (F0 m 37 ls []) := by
  unfold fX12_give_b37 at hF
  refine lv_aload_n C.1.1 C.1.2.1 dX12_give_37 rfl (lv_at hl 0 rfl) ?_
  obtain ⟨q1, hq1, hF⟩ := bnd_some hF
  refine m_callV C X vX12_keep rfl (kX12_keep O C.2.2.2.2.1 N   S q1 hq1) (Nat.le_of_ble_eq_true rfl) (Nat.le_of_ble_eq_true rfl) (Nat.le_of_ble_eq_true rfl) (Nat.le_of_ble_eq_true rfl) rfl hl.1 rfl (Nat.le_of_ble_eq_true rfl) dX12_give_38 (fun H locs X => ?_)
  refine lv_aload_n C.1.1 C.1.2.1 dX12_give_41 rfl (lv_at hl 0 rfl) ?_
  refine m_g33 C X dX12_give_42 ?_
  refine lv_iload_n C.1.1 C.1.2.1 dX12_give_45 rfl (lv_at hl 1 rfl) ?_
  refine lv_sipush (v := 999) C.1.1 C.1.2.1 dX12_give_46 (by decide) ?_
  refine lv_aload_n C.1.1 C.1.2.1 dX12_give_49 rfl (lv_at hl 0 rfl) ?_
  refine m_g33 C X dX12_give_50 ?_
  refine lv_iload_n C.1.1 C.1.2.1 dX12_give_53 rfl (lv_at hl 1 rfl) ?_
  obtain ⟨h_1, hF⟩ := chk_some hF
  refine m_r33 C X  (inb_vp h_1) rfl dX12_give_54 ?_
  refine lv_iload_n C.1.1 C.1.2.1 dX12_give_55 rfl (lv_at hl 2 rfl) ?_
  refine lv_iadd C.1.1 C.1.2.1 dX12_give_56 ?_
  refine g_min C hl.1 mMmin192 ⟨Nat.le_of_ble_eq_true rfl, Nat.le_of_ble_eq_true rfl⟩ (Nat.le_of_ble_eq_true rfl) (Nat.le_of_ble_eq_true rfl) dX12_give_57 ?_
  obtain ⟨h_2, hF⟩ := chk_some hF
  obtain ⟨S2, eS2, hF⟩ := lt_some hF
  refine m_w33 C O X  (inb_vp h_2) rfl eS2 dX12_give_60 (fun H locs X => ?_)
  refine lv_aload_n C.1.1 C.1.2.1 dX12_give_61 rfl (lv_at hl 0 rfl) ?_
  refine m_g33 C X dX12_give_62 ?_
  refine lv_iload_n C.1.1 C.1.2.1 dX12_give_65 rfl (lv_at hl 1 rfl) ?_
  obtain ⟨h_3, hF⟩ := chk_some hF
  refine m_r33 C X  (inb_vp h_3) rfl dX12_give_66 ?_
  cases hF
  exact g_iret C X dX12_give_67
noncomputable def fX12_give_b31 (N : Nat) (S : gS) : Option (Int32 × gS) := bnd (fX12_refuse N 1 S) fun q1 => (some (q1.1, q1.2))
theorem bX12_give_31 {N : Nat} {S : gS} {H : Heap} {locs : List Loc} {ls : Array Slot} {o : Int32 × gS} (C : gC p s m args meth c cX12_give 3 RX12 ((some .int)) D (mtys cI cS) mord g Am) (O : gO (mcell g cI cS sa) mord g) (X : gX D (mcell g cI cS sa) mord g S s H locs) (hl : lv_has ls 3 [(0, .ref (g 99))]) (hF : fX12_give_b31 N S = some o) : W p l e (rmd 2) s m args below meth c H locs 0 0 (gE below args s D (mtys cI cS) (mcell g cI cS sa) mord g (some (.int o.1)) o.2) (F0 m 31 ls []) := by
  unfold fX12_give_b31 at hF
  refine lv_aload_n C.1.1 C.1.2.1 dX12_give_31 rfl (lv_at hl 0 rfl) ?_
  refine lv_iconst (v := 1) C.1.1 C.1.2.1 dX12_give_32 (by decide) ?_
  obtain ⟨q1, hq1, hF⟩ := bnd_some hF
  refine m_callVi C X vX12_refuse rfl (kX12_refuse O C.2.2.2.2.1 N 1  S q1 hq1) (Nat.le_of_ble_eq_true rfl) (Nat.le_of_ble_eq_true rfl) (Nat.le_of_ble_eq_true rfl) (Nat.le_of_ble_eq_true rfl) rfl hl.1 rfl (Nat.le_of_ble_eq_true rfl) dX12_give_33 (fun H locs X => ?_)
  cases hF
  exact g_iret C X dX12_give_36
noncomputable def fX12_give_b19 (N : Nat) (x1 : Int32) (x2 : Int32) (S : gS) : Option (Int32 × gS) := bnd (fX12_isIn N (Int32.toInt64 x2) 1 100 S) fun q1 => (if q1.1 = 0 then fX12_give_b31 N q1.2 else fX12_give_b37 N x1 x2 q1.2)
theorem bX12_give_19 {N : Nat} {x1 : Int32} {x2 : Int32} {S : gS} {H : Heap} {locs : List Loc} {ls : Array Slot} {o : Int32 × gS} (C : gC p s m args meth c cX12_give 3 RX12 ((some .int)) D (mtys cI cS) mord g Am) (O : gO (mcell g cI cS sa) mord g) (X : gX D (mcell g cI cS sa) mord g S s H locs) (hl : lv_has ls 3 [(0, .ref (g 99)), (1, .int x1), (2, .int x2)]) (hF : fX12_give_b19 N x1 x2 S = some o) : W p l e (rmd 2) s m args below meth c H locs 0 0 (gE below args s D (mtys cI cS) (mcell g cI cS sa) mord g (some (.int o.1)) o.2) (F0 m 19 ls []) := by
  unfold fX12_give_b19 at hF
  refine lv_iload_n C.1.1 C.1.2.1 dX12_give_19 rfl (lv_at hl 2 rfl) ?_
  refine lv_i2l (v := Int32.toInt64 x2) C.1.1 C.1.2.1 dX12_give_20 rfl ?_
  refine lv_lconst (v := 1) C.1.1 C.1.2.1 dX12_give_21 (by decide) ?_
  refine lv_ldc2 C.1.1 C.1.2.1 C.1.2.2.2.1 (C.1.2.2.2.2 _ mKL428) dX12_give_22 ?_
  obtain ⟨q1, hq1, hF⟩ := bnd_some hF
  refine g_callSi C X vX12_isIn (kX12_isIn O C.2.2.2.2.1 N (Int32.toInt64 x2) 1 100  S q1 hq1) (Nat.le_of_ble_eq_true rfl) (Nat.le_of_ble_eq_true rfl) (Nat.le_of_ble_eq_true rfl) (Nat.le_of_ble_eq_true rfl) rfl hl.1 rfl (Nat.le_of_ble_eq_true rfl) dX12_give_25 (fun H locs X => ?_)
  refine lv_if_ne (tgt := 37) C.1.1 C.1.2.1 dX12_give_28 (by decide) (fun h_z => ?_) (fun h_z => ?_)
  · rw [if_neg h_z] at hF
    exact bX12_give_37 C O X (lv_sub hl [0, 1, 2] rfl) hF
  · rw [if_pos h_z] at hF
    exact bX12_give_31 C O X (lv_sub hl [0] rfl) hF
noncomputable def fX12_give_b13 (N : Nat) (S : gS) : Option (Int32 × gS) := bnd (fX12_fail N 1 S) fun q1 => (some (q1.1, q1.2))
theorem bX12_give_13 {N : Nat} {S : gS} {H : Heap} {locs : List Loc} {ls : Array Slot} {o : Int32 × gS} (C : gC p s m args meth c cX12_give 3 RX12 ((some .int)) D (mtys cI cS) mord g Am) (O : gO (mcell g cI cS sa) mord g) (X : gX D (mcell g cI cS sa) mord g S s H locs) (hl : lv_has ls 3 [(0, .ref (g 99))]) (hF : fX12_give_b13 N S = some o) : W p l e (rmd 2) s m args below meth c H locs 0 0 (gE below args s D (mtys cI cS) (mcell g cI cS sa) mord g (some (.int o.1)) o.2) (F0 m 13 ls []) := by
  unfold fX12_give_b13 at hF
  refine lv_aload_n C.1.1 C.1.2.1 dX12_give_13 rfl (lv_at hl 0 rfl) ?_
  refine lv_iconst (v := 1) C.1.1 C.1.2.1 dX12_give_14 (by decide) ?_
  obtain ⟨q1, hq1, hF⟩ := bnd_some hF
  refine m_callVi C X vX12_fail rfl (kX12_fail O C.2.2.2.2.1 N 1  S q1 hq1) (Nat.le_of_ble_eq_true rfl) (Nat.le_of_ble_eq_true rfl) (Nat.le_of_ble_eq_true rfl) (Nat.le_of_ble_eq_true rfl) rfl hl.1 rfl (Nat.le_of_ble_eq_true rfl) dX12_give_15 (fun H locs X => ?_)
  cases hF
  exact g_iret C X dX12_give_18
noncomputable def fX12_give_b0 (N : Nat) (x1 : Int32) (x2 : Int32) (S : gS) : Option (Int32 × gS) := lt (sU S 99 4 0) fun S1 => (bnd (fX12_isGuild N x1 S1) fun q1 => (if q1.1 = 0 then fX12_give_b13 N q1.2 else fX12_give_b19 N x1 x2 q1.2))
theorem bX12_give_0 {N : Nat} {x1 : Int32} {x2 : Int32} {S : gS} {H : Heap} {locs : List Loc} {ls : Array Slot} {o : Int32 × gS} (C : gC p s m args meth c cX12_give 3 RX12 ((some .int)) D (mtys cI cS) mord g Am) (O : gO (mcell g cI cS sa) mord g) (X : gX D (mcell g cI cS sa) mord g S s H locs) (hl : lv_has ls 3 [(0, .ref (g 99)), (1, .int x1), (2, .int x2)]) (hF : fX12_give_b0 N x1 x2 S = some o) : W p l e (rmd 2) s m args below meth c H locs 0 0 (gE below args s D (mtys cI cS) (mcell g cI cS sa) mord g (some (.int o.1)) o.2) (F0 m 0 ls []) := by
  unfold fX12_give_b0 at hF
  refine lv_aload_n C.1.1 C.1.2.1 dX12_give_0 rfl (lv_at hl 0 rfl) ?_
  refine lv_iconst (v := 0) C.1.1 C.1.2.1 dX12_give_1 (by decide) ?_
  obtain ⟨S1, eS1, hF⟩ := lt_some hF
  refine m_p4 C O X eS1 dX12_give_2 (fun H locs X => ?_)
  refine lv_aload_n C.1.1 C.1.2.1 dX12_give_5 rfl (lv_at hl 0 rfl) ?_
  refine lv_iload_n C.1.1 C.1.2.1 dX12_give_6 rfl (lv_at hl 1 rfl) ?_
  obtain ⟨q1, hq1, hF⟩ := bnd_some hF
  refine m_callVi C X vX12_isGuild rfl (kX12_isGuild O C.2.2.2.2.1 N x1  S1 q1 hq1) (Nat.le_of_ble_eq_true rfl) (Nat.le_of_ble_eq_true rfl) (Nat.le_of_ble_eq_true rfl) (Nat.le_of_ble_eq_true rfl) rfl hl.1 rfl (Nat.le_of_ble_eq_true rfl) dX12_give_7 (fun H locs X => ?_)
  refine lv_if_ne (tgt := 19) C.1.1 C.1.2.1 dX12_give_10 (by decide) (fun h_z => ?_) (fun h_z => ?_)
  · rw [if_neg h_z] at hF
    exact bX12_give_19 C O X (lv_sub hl [0, 1, 2] rfl) hF
  · rw [if_pos h_z] at hF
    exact bX12_give_13 C O X (lv_sub hl [0] rfl) hF
noncomputable def fX12_give (N : Nat) (x1 : Int32) (x2 : Int32) (S : gS) : Option (Int32 × gS) := fX12_give_b0 N x1 x2 S
theorem kX12_give {l : Launch} {D : va_G} {g : Nat → Nat} {cI cS : ClassId} {sa : Nat → Nat → Option Nat} {Am : (Nat → Prop) → State → Heap → Prop} (O : gO (mcell g cI cS sa) mord g) (P : gAm Am) (N : Nat) (x1 : Int32) (x2 : Int32) (S : gS) (o : Int32 × gS) (hF : fX12_give N x1 x2 S = some o) : gM l yX12_give cX12_give 3 ((some .int)) 2 D (mtys cI cS) (mcell g cI cS sa) mord g Am [.ref (g 99), .int x1, .int x2] S (some (.int o.1)) o.2 :=
  gM_of O P (by decide) (Nat.le_of_ble_eq_true rfl) (fun p e s m args below meth c ls C X hl => bX12_give_0 C O X (lv_sub hl [0, 1, 2] rfl) hF)
-- undo
noncomputable def fX12_undo_b14 (N : Nat) (S : gS) : Option (Int32 × gS) := lt (sU S 99 39 (((S 99 39) - 1 : Int32))) fun S1 => (bnd (fX12_unpack N 36 ((26 * (S1 99 39) : Int32)) S1) fun q1 => (some (q1.2 99 39, q1.2)))
theorem bX12_undo_14 {N : Nat} {S : gS} {H : Heap} {locs : List Loc} {ls : Array Slot} {o : Int32 × gS} (C : gC p s m args meth c cX12_undo 1 RX12 ((some .int)) D (mtys cI cS) mord g Am) (O : gO (mcell g cI cS sa) mord g) (X : gX D (mcell g cI cS sa) mord g S s H locs) (hl : lv_has ls 1 [(0, .ref (g 99))]) (hF : fX12_undo_b14 N S = some o) : W p l e (rmd 1) s m args below meth c H locs 0 0 (gE below args s D (mtys cI cS) (mcell g cI cS sa) mord g (some (.int o.1)) o.2) (F0 m 14 ls []) := by
  unfold fX12_undo_b14 at hF
  refine lv_aload_n C.1.1 C.1.2.1 dX12_undo_14 rfl (lv_at hl 0 rfl) ?_
  refine lv_dup C.1.1 C.1.2.1 dX12_undo_15 rfl ?_
  refine m_g39 C X dX12_undo_16 ?_
  refine lv_iconst (v := 1) C.1.1 C.1.2.1 dX12_undo_19 (by decide) ?_
  refine lv_isub C.1.1 C.1.2.1 dX12_undo_20 ?_
  obtain ⟨S1, eS1, hF⟩ := lt_some hF
  refine m_p39 C O X eS1 dX12_undo_21 (fun H locs X => ?_)
  refine lv_aload_n C.1.1 C.1.2.1 dX12_undo_24 rfl (lv_at hl 0 rfl) ?_
  refine lv_aload_n C.1.1 C.1.2.1 dX12_undo_25 rfl (lv_at hl 0 rfl) ?_
  refine m_g36 C X dX12_undo_26 ?_
  refine lv_bipush (v := 26) C.1.1 C.1.2.1 dX12_undo_29 (by decide) ?_
  refine lv_aload_n C.1.1 C.1.2.1 dX12_undo_31 rfl (lv_at hl 0 rfl) ?_
  refine m_g39 C X dX12_undo_32 ?_
  refine lv_imul C.1.1 C.1.2.1 dX12_undo_35 ?_
  obtain ⟨q1, hq1, hF⟩ := bnd_some hF
  refine m_callV C X vX12_unpack rfl (kX12_unpack O C.2.2.2.2.1 N 36 ((26 * (S1 99 39) : Int32)) (rfl : mI 36 = true) S1 q1 hq1) (Nat.le_of_ble_eq_true rfl) (Nat.le_of_ble_eq_true rfl) (Nat.le_of_ble_eq_true rfl) (Nat.le_of_ble_eq_true rfl) rfl hl.1 rfl (Nat.le_of_ble_eq_true rfl) dX12_undo_36 (fun H locs X => ?_)
  refine lv_aload_n C.1.1 C.1.2.1 dX12_undo_39 rfl (lv_at hl 0 rfl) ?_
  refine m_g39 C X dX12_undo_40 ?_
  cases hF
  exact g_iret C X dX12_undo_43
noncomputable def fX12_undo_b12 (N : Nat) (S : gS) : Option (Int32 × gS) := some ((-1), S)
theorem bX12_undo_12 {N : Nat} {S : gS} {H : Heap} {locs : List Loc} {ls : Array Slot} {o : Int32 × gS} (C : gC p s m args meth c cX12_undo 1 RX12 ((some .int)) D (mtys cI cS) mord g Am) (O : gO (mcell g cI cS sa) mord g) (X : gX D (mcell g cI cS sa) mord g S s H locs) (hl : lv_has ls 1 []) (hF : fX12_undo_b12 N S = some o) : W p l e (rmd 1) s m args below meth c H locs 0 0 (gE below args s D (mtys cI cS) (mcell g cI cS sa) mord g (some (.int o.1)) o.2) (F0 m 12 ls []) := by
  unfold fX12_undo_b12 at hF
  refine lv_iconst (v := (-1)) C.1.1 C.1.2.1 dX12_undo_12 (by decide) ?_
  cases hF
  exact g_iret C X dX12_undo_13
noncomputable def fX12_undo_b0 (N : Nat) (S : gS) : Option (Int32 × gS) := lt (sU S 99 4 0) fun S1 => (if (S1 99 39) = 0 then fX12_undo_b12 N S1 else fX12_undo_b14 N S1)
theorem bX12_undo_0 {N : Nat} {S : gS} {H : Heap} {locs : List Loc} {ls : Array Slot} {o : Int32 × gS} (C : gC p s m args meth c cX12_undo 1 RX12 ((some .int)) D (mtys cI cS) mord g Am) (O : gO (mcell g cI cS sa) mord g) (X : gX D (mcell g cI cS sa) mord g S s H locs) (hl : lv_has ls 1 [(0, .ref (g 99))]) (hF : fX12_undo_b0 N S = some o) : W p l e (rmd 1) s m args below meth c H locs 0 0 (gE below args s D (mtys cI cS) (mcell g cI cS sa) mord g (some (.int o.1)) o.2) (F0 m 0 ls []) := by
  unfold fX12_undo_b0 at hF
  refine lv_aload_n C.1.1 C.1.2.1 dX12_undo_0 rfl (lv_at hl 0 rfl) ?_
  refine lv_iconst (v := 0) C.1.1 C.1.2.1 dX12_undo_1 (by decide) ?_
  obtain ⟨S1, eS1, hF⟩ := lt_some hF
  refine m_p4 C O X eS1 dX12_undo_2 (fun H locs X => ?_)
  refine lv_aload_n C.1.1 C.1.2.1 dX12_undo_5 rfl (lv_at hl 0 rfl) ?_
  refine m_g39 C X dX12_undo_6 ?_
  refine lv_if_ne (tgt := 14) C.1.1 C.1.2.1 dX12_undo_9 (by decide) (fun h_z => ?_) (fun h_z => ?_)
  · rw [if_neg h_z] at hF
    exact bX12_undo_14 C O X (lv_sub hl [0] rfl) hF
  · rw [if_pos h_z] at hF
    exact bX12_undo_12 C O X (lv_sub hl [] rfl) hF
noncomputable def fX12_undo (N : Nat) (S : gS) : Option (Int32 × gS) := fX12_undo_b0 N S
theorem kX12_undo {l : Launch} {D : va_G} {g : Nat → Nat} {cI cS : ClassId} {sa : Nat → Nat → Option Nat} {Am : (Nat → Prop) → State → Heap → Prop} (O : gO (mcell g cI cS sa) mord g) (P : gAm Am) (N : Nat) (S : gS) (o : Int32 × gS) (hF : fX12_undo N S = some o) : gM l yX12_undo cX12_undo 1 ((some .int)) 1 D (mtys cI cS) (mcell g cI cS sa) mord g Am [.ref (g 99)] S (some (.int o.1)) o.2 :=
  gM_of O P (by decide) (Nat.le_of_ble_eq_true rfl) (fun p e s m args below meth c ls C X hl => bX12_undo_0 C O X (lv_sub hl [0] rfl) hF)
-- then
noncomputable def fX12_then_b110 (N : Nat) (t0 : Int32) (S : gS) : Option (Int32 × gS) := bnd (fX12_unpack N 46 0 S) fun q1 => (some (t0, q1.2))
theorem bX12_then_110 {N : Nat} {t0 : Int32} {S : gS} {H : Heap} {locs : List Loc} {ls : Array Slot} {o : Int32 × gS} (C : gC p s m args meth c cX12_then 5 RX12 ((some .int)) D (mtys cI cS) mord g Am) (O : gO (mcell g cI cS sa) mord g) (X : gX D (mcell g cI cS sa) mord g S s H locs) (hl : lv_has ls 5 [(0, .ref (g 99))]) (hF : fX12_then_b110 N t0 S = some o) : W p l e (rmd 7) s m args below meth c H locs 0 0 (gE below args s D (mtys cI cS) (mcell g cI cS sa) mord g (some (.int o.1)) o.2) (F0 m 110 ls [.int t0]) := by
  unfold fX12_then_b110 at hF
  refine lv_istore (lv' := [(4, .int t0), (0, .ref (g 99))]) C.1.1 C.1.2.1 dX12_then_110 hl (by decide) rfl (fun ls hl => ?_)
  refine lv_aload_n C.1.1 C.1.2.1 dX12_then_112 rfl (lv_at hl 1 rfl) ?_
  refine lv_aload_n C.1.1 C.1.2.1 dX12_then_113 rfl (lv_at hl 1 rfl) ?_
  refine m_g46 C X dX12_then_114 ?_
  refine lv_iconst (v := 0) C.1.1 C.1.2.1 dX12_then_117 (by decide) ?_
  obtain ⟨q1, hq1, hF⟩ := bnd_some hF
  refine m_callV C X vX12_unpack rfl (kX12_unpack O C.2.2.2.2.1 N 46 0 (rfl : mI 46 = true) S q1 hq1) (Nat.le_of_ble_eq_true rfl) (Nat.le_of_ble_eq_true rfl) (Nat.le_of_ble_eq_true rfl) (Nat.le_of_ble_eq_true rfl) rfl hl.1 rfl (Nat.le_of_ble_eq_true rfl) dX12_then_118 (fun H locs X => ?_)
  refine lv_iload C.1.1 C.1.2.1 dX12_then_121 (lv_at hl 0 rfl) ?_
  cases hF
  exact g_iret C X dX12_then_123
noncomputable def fX12_then_b104 (N : Nat) (x1 : Int32) (S : gS) : Option (Int32 × gS) := chk (inb x1 (6)) (fX12_then_b110 N (S 35 (Int32.toNatClampNeg x1)) S)
theorem bX12_then_104 {N : Nat} {x1 : Int32} {S : gS} {H : Heap} {locs : List Loc} {ls : Array Slot} {o : Int32 × gS} (C : gC p s m args meth c cX12_then 5 RX12 ((some .int)) D (mtys cI cS) mord g Am) (O : gO (mcell g cI cS sa) mord g) (X : gX D (mcell g cI cS sa) mord g S s H locs) (hl : lv_has ls 5 [(0, .ref (g 99)), (1, .int x1)]) (hF : fX12_then_b104 N x1 S = some o) : W p l e (rmd 7) s m args below meth c H locs 0 0 (gE below args s D (mtys cI cS) (mcell g cI cS sa) mord g (some (.int o.1)) o.2) (F0 m 104 ls []) := by
  unfold fX12_then_b104 at hF
  refine lv_aload_n C.1.1 C.1.2.1 dX12_then_104 rfl (lv_at hl 0 rfl) ?_
  refine m_g35 C X dX12_then_105 ?_
  refine lv_iload_n C.1.1 C.1.2.1 dX12_then_108 rfl (lv_at hl 1 rfl) ?_
  obtain ⟨h_1, hF⟩ := chk_some hF
  refine m_r35 C X  (inb_vp h_1) rfl dX12_then_109 ?_
  exact bX12_then_110 C O X (lv_sub hl [0] rfl) hF
noncomputable def fX12_then_b95 (N : Nat) (x1 : Int32) (S : gS) : Option (Int32 × gS) := chk (inb x1 (6)) (fX12_then_b110 N (S 34 (Int32.toNatClampNeg x1)) S)
theorem bX12_then_95 {N : Nat} {x1 : Int32} {S : gS} {H : Heap} {locs : List Loc} {ls : Array Slot} {o : Int32 × gS} (C : gC p s m args meth c cX12_then 5 RX12 ((some .int)) D (mtys cI cS) mord g Am) (O : gO (mcell g cI cS sa) mord g) (X : gX D (mcell g cI cS sa) mord g S s H locs) (hl : lv_has ls 5 [(0, .ref (g 99)), (1, .int x1)]) (hF : fX12_then_b95 N x1 S = some o) : W p l e (rmd 7) s m args below meth c H locs 0 0 (gE below args s D (mtys cI cS) (mcell g cI cS sa) mord g (some (.int o.1)) o.2) (F0 m 95 ls []) := by
  unfold fX12_then_b95 at hF
  refine lv_aload_n C.1.1 C.1.2.1 dX12_then_95 rfl (lv_at hl 0 rfl) ?_
  refine m_g34 C X dX12_then_96 ?_
  refine lv_iload_n C.1.1 C.1.2.1 dX12_then_99 rfl (lv_at hl 1 rfl) ?_
  obtain ⟨h_1, hF⟩ := chk_some hF
  refine m_r34 C X  (inb_vp h_1) rfl dX12_then_100 ?_
  refine lv_goto (tgt := 110) C.1.1 C.1.2.1 dX12_then_101 (by decide) ?_
  exact bX12_then_110 C O X (lv_sub hl [0] rfl) hF
noncomputable def fX12_then_b90 (N : Nat) (x1 : Int32) (x3 : Int32) (S : gS) : Option (Int32 × gS) := if x3 = 2 then fX12_then_b95 N x1 S else fX12_then_b104 N x1 S
theorem bX12_then_90 {N : Nat} {x1 : Int32} {x3 : Int32} {S : gS} {H : Heap} {locs : List Loc} {ls : Array Slot} {o : Int32 × gS} (C : gC p s m args meth c cX12_then 5 RX12 ((some .int)) D (mtys cI cS) mord g Am) (O : gO (mcell g cI cS sa) mord g) (X : gX D (mcell g cI cS sa) mord g S s H locs) (hl : lv_has ls 5 [(0, .ref (g 99)), (1, .int x1), (3, .int x3)]) (hF : fX12_then_b90 N x1 x3 S = some o) : W p l e (rmd 7) s m args below meth c H locs 0 0 (gE below args s D (mtys cI cS) (mcell g cI cS sa) mord g (some (.int o.1)) o.2) (F0 m 90 ls []) := by
  unfold fX12_then_b90 at hF
  refine lv_iload_n C.1.1 C.1.2.1 dX12_then_90 rfl (lv_at hl 2 rfl) ?_
  refine lv_iconst (v := 2) C.1.1 C.1.2.1 dX12_then_91 (by decide) ?_
  refine lv_icmp_ne (tgt := 104) C.1.1 C.1.2.1 dX12_then_92 (by decide) (fun h_z => ?_) (fun h_z => ?_)
  · rw [if_neg h_z] at hF
    exact bX12_then_104 C O X (lv_sub hl [0, 1] rfl) hF
  · rw [if_pos h_z] at hF
    exact bX12_then_95 C O X (lv_sub hl [0, 1] rfl) hF
noncomputable def fX12_then_b81 (N : Nat) (x1 : Int32) (S : gS) : Option (Int32 × gS) := chk (inb x1 (6)) (fX12_then_b110 N (S 33 (Int32.toNatClampNeg x1)) S)
theorem bX12_then_81 {N : Nat} {x1 : Int32} {S : gS} {H : Heap} {locs : List Loc} {ls : Array Slot} {o : Int32 × gS} (C : gC p s m args meth c cX12_then 5 RX12 ((some .int)) D (mtys cI cS) mord g Am) (O : gO (mcell g cI cS sa) mord g) (X : gX D (mcell g cI cS sa) mord g S s H locs) (hl : lv_has ls 5 [(0, .ref (g 99)), (1, .int x1)]) (hF : fX12_then_b81 N x1 S = some o) : W p l e (rmd 7) s m args below meth c H locs 0 0 (gE below args s D (mtys cI cS) (mcell g cI cS sa) mord g (some (.int o.1)) o.2) (F0 m 81 ls []) := by
  unfold fX12_then_b81 at hF
  refine lv_aload_n C.1.1 C.1.2.1 dX12_then_81 rfl (lv_at hl 0 rfl) ?_
  refine m_g33 C X dX12_then_82 ?_
  refine lv_iload_n C.1.1 C.1.2.1 dX12_then_85 rfl (lv_at hl 1 rfl) ?_
  obtain ⟨h_1, hF⟩ := chk_some hF
  refine m_r33 C X  (inb_vp h_1) rfl dX12_then_86 ?_
  refine lv_goto (tgt := 110) C.1.1 C.1.2.1 dX12_then_87 (by decide) ?_
  exact bX12_then_110 C O X (lv_sub hl [0] rfl) hF
noncomputable def fX12_then_b76 (N : Nat) (x1 : Int32) (x3 : Int32) (S : gS) : Option (Int32 × gS) := if x3 = 1 then fX12_then_b81 N x1 S else fX12_then_b90 N x1 x3 S
theorem bX12_then_76 {N : Nat} {x1 : Int32} {x3 : Int32} {S : gS} {H : Heap} {locs : List Loc} {ls : Array Slot} {o : Int32 × gS} (C : gC p s m args meth c cX12_then 5 RX12 ((some .int)) D (mtys cI cS) mord g Am) (O : gO (mcell g cI cS sa) mord g) (X : gX D (mcell g cI cS sa) mord g S s H locs) (hl : lv_has ls 5 [(0, .ref (g 99)), (1, .int x1), (3, .int x3)]) (hF : fX12_then_b76 N x1 x3 S = some o) : W p l e (rmd 7) s m args below meth c H locs 0 0 (gE below args s D (mtys cI cS) (mcell g cI cS sa) mord g (some (.int o.1)) o.2) (F0 m 76 ls []) := by
  unfold fX12_then_b76 at hF
  refine lv_iload_n C.1.1 C.1.2.1 dX12_then_76 rfl (lv_at hl 2 rfl) ?_
  refine lv_iconst (v := 1) C.1.1 C.1.2.1 dX12_then_77 (by decide) ?_
  refine lv_icmp_ne (tgt := 90) C.1.1 C.1.2.1 dX12_then_78 (by decide) (fun h_z => ?_) (fun h_z => ?_)
  · rw [if_neg h_z] at hF
    exact bX12_then_90 C O X (lv_sub hl [0, 1, 2] rfl) hF
  · rw [if_pos h_z] at hF
    exact bX12_then_81 C O X (lv_sub hl [0, 1] rfl) hF
noncomputable def fX12_then_b67 (N : Nat) (x1 : Int32) (S : gS) : Option (Int32 × gS) := chk (inb x1 (6)) (fX12_then_b110 N (S 32 (Int32.toNatClampNeg x1)) S)
theorem bX12_then_67 {N : Nat} {x1 : Int32} {S : gS} {H : Heap} {locs : List Loc} {ls : Array Slot} {o : Int32 × gS} (C : gC p s m args meth c cX12_then 5 RX12 ((some .int)) D (mtys cI cS) mord g Am) (O : gO (mcell g cI cS sa) mord g) (X : gX D (mcell g cI cS sa) mord g S s H locs) (hl : lv_has ls 5 [(0, .ref (g 99)), (1, .int x1)]) (hF : fX12_then_b67 N x1 S = some o) : W p l e (rmd 7) s m args below meth c H locs 0 0 (gE below args s D (mtys cI cS) (mcell g cI cS sa) mord g (some (.int o.1)) o.2) (F0 m 67 ls []) := by
  unfold fX12_then_b67 at hF
  refine lv_aload_n C.1.1 C.1.2.1 dX12_then_67 rfl (lv_at hl 0 rfl) ?_
  refine m_g32 C X dX12_then_68 ?_
  refine lv_iload_n C.1.1 C.1.2.1 dX12_then_71 rfl (lv_at hl 1 rfl) ?_
  obtain ⟨h_1, hF⟩ := chk_some hF
  refine m_r32 C X  (inb_vp h_1) rfl dX12_then_72 ?_
  refine lv_goto (tgt := 110) C.1.1 C.1.2.1 dX12_then_73 (by decide) ?_
  exact bX12_then_110 C O X (lv_sub hl [0] rfl) hF
noncomputable def fX12_then_b49 (N : Nat) (x1 : Int32) (x2 : Int32) (x3 : Int32) (S : gS) : Option (Int32 × gS) := bnd (fX12_pack N 46 0 S) fun q1 => (bnd (fX12_goOn N x2 q1.2) fun q2 => (if x3 = 0 then fX12_then_b67 N x1 q2.2 else fX12_then_b76 N x1 x3 q2.2))
theorem bX12_then_49 {N : Nat} {x1 : Int32} {x2 : Int32} {x3 : Int32} {S : gS} {H : Heap} {locs : List Loc} {ls : Array Slot} {o : Int32 × gS} (C : gC p s m args meth c cX12_then 5 RX12 ((some .int)) D (mtys cI cS) mord g Am) (O : gO (mcell g cI cS sa) mord g) (X : gX D (mcell g cI cS sa) mord g S s H locs) (hl : lv_has ls 5 [(0, .ref (g 99)), (1, .int x1), (2, .int x2), (3, .int x3)]) (hF : fX12_then_b49 N x1 x2 x3 S = some o) : W p l e (rmd 7) s m args below meth c H locs 0 0 (gE below args s D (mtys cI cS) (mcell g cI cS sa) mord g (some (.int o.1)) o.2) (F0 m 49 ls []) := by
  unfold fX12_then_b49 at hF
  refine lv_aload_n C.1.1 C.1.2.1 dX12_then_49 rfl (lv_at hl 0 rfl) ?_
  refine lv_aload_n C.1.1 C.1.2.1 dX12_then_50 rfl (lv_at hl 0 rfl) ?_
  refine m_g46 C X dX12_then_51 ?_
  refine lv_iconst (v := 0) C.1.1 C.1.2.1 dX12_then_54 (by decide) ?_
  obtain ⟨q1, hq1, hF⟩ := bnd_some hF
  refine m_callV C X vX12_pack rfl (kX12_pack O C.2.2.2.2.1 N 46 0 (rfl : mI 46 = true) S q1 hq1) (Nat.le_of_ble_eq_true rfl) (Nat.le_of_ble_eq_true rfl) (Nat.le_of_ble_eq_true rfl) (Nat.le_of_ble_eq_true rfl) rfl hl.1 rfl (Nat.le_of_ble_eq_true rfl) dX12_then_55 (fun H locs X => ?_)
  refine lv_aload_n C.1.1 C.1.2.1 dX12_then_58 rfl (lv_at hl 0 rfl) ?_
  refine lv_iload_n C.1.1 C.1.2.1 dX12_then_59 rfl (lv_at hl 2 rfl) ?_
  obtain ⟨q2, hq2, hF⟩ := bnd_some hF
  refine m_callV C X vX12_goOn rfl (kX12_goOn O C.2.2.2.2.1 N x2  q1.2 q2 hq2) (Nat.le_of_ble_eq_true rfl) (Nat.le_of_ble_eq_true rfl) (Nat.le_of_ble_eq_true rfl) (Nat.le_of_ble_eq_true rfl) rfl hl.1 rfl (Nat.le_of_ble_eq_true rfl) dX12_then_60 (fun H locs X => ?_)
  refine lv_iload_n C.1.1 C.1.2.1 dX12_then_63 rfl (lv_at hl 3 rfl) ?_
  refine lv_if_ne (tgt := 76) C.1.1 C.1.2.1 dX12_then_64 (by decide) (fun h_z => ?_) (fun h_z => ?_)
  · rw [if_neg h_z] at hF
    exact bX12_then_76 C O X (lv_sub hl [0, 1, 3] rfl) hF
  · rw [if_pos h_z] at hF
    exact bX12_then_67 C O X (lv_sub hl [0, 1] rfl) hF
noncomputable def fX12_then_b43 (N : Nat) (S : gS) : Option (Int32 × gS) := bnd (fX12_fail N 2 S) fun q1 => (some (q1.1, q1.2))
theorem bX12_then_43 {N : Nat} {S : gS} {H : Heap} {locs : List Loc} {ls : Array Slot} {o : Int32 × gS} (C : gC p s m args meth c cX12_then 5 RX12 ((some .int)) D (mtys cI cS) mord g Am) (O : gO (mcell g cI cS sa) mord g) (X : gX D (mcell g cI cS sa) mord g S s H locs) (hl : lv_has ls 5 [(0, .ref (g 99))]) (hF : fX12_then_b43 N S = some o) : W p l e (rmd 7) s m args below meth c H locs 0 0 (gE below args s D (mtys cI cS) (mcell g cI cS sa) mord g (some (.int o.1)) o.2) (F0 m 43 ls []) := by
  unfold fX12_then_b43 at hF
  refine lv_aload_n C.1.1 C.1.2.1 dX12_then_43 rfl (lv_at hl 0 rfl) ?_
  refine lv_iconst (v := 2) C.1.1 C.1.2.1 dX12_then_44 (by decide) ?_
  obtain ⟨q1, hq1, hF⟩ := bnd_some hF
  refine m_callVi C X vX12_fail rfl (kX12_fail O C.2.2.2.2.1 N 2  S q1 hq1) (Nat.le_of_ble_eq_true rfl) (Nat.le_of_ble_eq_true rfl) (Nat.le_of_ble_eq_true rfl) (Nat.le_of_ble_eq_true rfl) rfl hl.1 rfl (Nat.le_of_ble_eq_true rfl) dX12_then_45 (fun H locs X => ?_)
  cases hF
  exact g_iret C X dX12_then_48
noncomputable def fX12_then_b31 (N : Nat) (x1 : Int32) (x2 : Int32) (x3 : Int32) (S : gS) : Option (Int32 × gS) := bnd (fX12_isIn N (Int32.toInt64 x2) 0 60 S) fun q1 => (if q1.1 = 0 then fX12_then_b43 N q1.2 else fX12_then_b49 N x1 x2 x3 q1.2)
theorem bX12_then_31 {N : Nat} {x1 : Int32} {x2 : Int32} {x3 : Int32} {S : gS} {H : Heap} {locs : List Loc} {ls : Array Slot} {o : Int32 × gS} (C : gC p s m args meth c cX12_then 5 RX12 ((some .int)) D (mtys cI cS) mord g Am) (O : gO (mcell g cI cS sa) mord g) (X : gX D (mcell g cI cS sa) mord g S s H locs) (hl : lv_has ls 5 [(0, .ref (g 99)), (1, .int x1), (2, .int x2), (3, .int x3)]) (hF : fX12_then_b31 N x1 x2 x3 S = some o) : W p l e (rmd 7) s m args below meth c H locs 0 0 (gE below args s D (mtys cI cS) (mcell g cI cS sa) mord g (some (.int o.1)) o.2) (F0 m 31 ls []) := by
  unfold fX12_then_b31 at hF
  refine lv_iload_n C.1.1 C.1.2.1 dX12_then_31 rfl (lv_at hl 2 rfl) ?_
  refine lv_i2l (v := Int32.toInt64 x2) C.1.1 C.1.2.1 dX12_then_32 rfl ?_
  refine lv_lconst (v := 0) C.1.1 C.1.2.1 dX12_then_33 (by decide) ?_
  refine lv_ldc2 C.1.1 C.1.2.1 C.1.2.2.2.1 (C.1.2.2.2.2 _ mKL432) dX12_then_34 ?_
  obtain ⟨q1, hq1, hF⟩ := bnd_some hF
  refine g_callSi C X vX12_isIn (kX12_isIn O C.2.2.2.2.1 N (Int32.toInt64 x2) 0 60  S q1 hq1) (Nat.le_of_ble_eq_true rfl) (Nat.le_of_ble_eq_true rfl) (Nat.le_of_ble_eq_true rfl) (Nat.le_of_ble_eq_true rfl) rfl hl.1 rfl (Nat.le_of_ble_eq_true rfl) dX12_then_37 (fun H locs X => ?_)
  refine lv_if_ne (tgt := 49) C.1.1 C.1.2.1 dX12_then_40 (by decide) (fun h_z => ?_) (fun h_z => ?_)
  · rw [if_neg h_z] at hF
    exact bX12_then_49 C O X (lv_sub hl [0, 1, 2, 3] rfl) hF
  · rw [if_pos h_z] at hF
    exact bX12_then_43 C O X (lv_sub hl [0] rfl) hF
noncomputable def fX12_then_b25 (N : Nat) (S : gS) : Option (Int32 × gS) := bnd (fX12_fail N 1 S) fun q1 => (some (q1.1, q1.2))
theorem bX12_then_25 {N : Nat} {S : gS} {H : Heap} {locs : List Loc} {ls : Array Slot} {o : Int32 × gS} (C : gC p s m args meth c cX12_then 5 RX12 ((some .int)) D (mtys cI cS) mord g Am) (O : gO (mcell g cI cS sa) mord g) (X : gX D (mcell g cI cS sa) mord g S s H locs) (hl : lv_has ls 5 [(0, .ref (g 99))]) (hF : fX12_then_b25 N S = some o) : W p l e (rmd 7) s m args below meth c H locs 0 0 (gE below args s D (mtys cI cS) (mcell g cI cS sa) mord g (some (.int o.1)) o.2) (F0 m 25 ls []) := by
  unfold fX12_then_b25 at hF
  refine lv_aload_n C.1.1 C.1.2.1 dX12_then_25 rfl (lv_at hl 0 rfl) ?_
  refine lv_iconst (v := 1) C.1.1 C.1.2.1 dX12_then_26 (by decide) ?_
  obtain ⟨q1, hq1, hF⟩ := bnd_some hF
  refine m_callVi C X vX12_fail rfl (kX12_fail O C.2.2.2.2.1 N 1  S q1 hq1) (Nat.le_of_ble_eq_true rfl) (Nat.le_of_ble_eq_true rfl) (Nat.le_of_ble_eq_true rfl) (Nat.le_of_ble_eq_true rfl) rfl hl.1 rfl (Nat.le_of_ble_eq_true rfl) dX12_then_27 (fun H locs X => ?_)
  cases hF
  exact g_iret C X dX12_then_30
noncomputable def fX12_then_b13 (N : Nat) (x1 : Int32) (x2 : Int32) (x3 : Int32) (S : gS) : Option (Int32 × gS) := bnd (fX12_isIn N (Int32.toInt64 x3) 0 3 S) fun q1 => (if q1.1 = 0 then fX12_then_b25 N q1.2 else fX12_then_b31 N x1 x2 x3 q1.2)
theorem bX12_then_13 {N : Nat} {x1 : Int32} {x2 : Int32} {x3 : Int32} {S : gS} {H : Heap} {locs : List Loc} {ls : Array Slot} {o : Int32 × gS} (C : gC p s m args meth c cX12_then 5 RX12 ((some .int)) D (mtys cI cS) mord g Am) (O : gO (mcell g cI cS sa) mord g) (X : gX D (mcell g cI cS sa) mord g S s H locs) (hl : lv_has ls 5 [(0, .ref (g 99)), (1, .int x1), (2, .int x2), (3, .int x3)]) (hF : fX12_then_b13 N x1 x2 x3 S = some o) : W p l e (rmd 7) s m args below meth c H locs 0 0 (gE below args s D (mtys cI cS) (mcell g cI cS sa) mord g (some (.int o.1)) o.2) (F0 m 13 ls []) := by
  unfold fX12_then_b13 at hF
  refine lv_iload_n C.1.1 C.1.2.1 dX12_then_13 rfl (lv_at hl 3 rfl) ?_
  refine lv_i2l (v := Int32.toInt64 x3) C.1.1 C.1.2.1 dX12_then_14 rfl ?_
  refine lv_lconst (v := 0) C.1.1 C.1.2.1 dX12_then_15 (by decide) ?_
  refine lv_ldc2 C.1.1 C.1.2.1 C.1.2.2.2.1 (C.1.2.2.2.2 _ mKL430) dX12_then_16 ?_
  obtain ⟨q1, hq1, hF⟩ := bnd_some hF
  refine g_callSi C X vX12_isIn (kX12_isIn O C.2.2.2.2.1 N (Int32.toInt64 x3) 0 3  S q1 hq1) (Nat.le_of_ble_eq_true rfl) (Nat.le_of_ble_eq_true rfl) (Nat.le_of_ble_eq_true rfl) (Nat.le_of_ble_eq_true rfl) rfl hl.1 rfl (Nat.le_of_ble_eq_true rfl) dX12_then_19 (fun H locs X => ?_)
  refine lv_if_ne (tgt := 31) C.1.1 C.1.2.1 dX12_then_22 (by decide) (fun h_z => ?_) (fun h_z => ?_)
  · rw [if_neg h_z] at hF
    exact bX12_then_31 C O X (lv_sub hl [0, 1, 2, 3] rfl) hF
  · rw [if_pos h_z] at hF
    exact bX12_then_25 C O X (lv_sub hl [0] rfl) hF
noncomputable def fX12_then_b0 (N : Nat) (x1 : Int32) (x2 : Int32) (x3 : Int32) (S : gS) : Option (Int32 × gS) := lt (sU S 99 4 0) fun S1 => (bnd (fX12_isGuild N x1 S1) fun q1 => (if q1.1 = 0 then fX12_then_b25 N q1.2 else fX12_then_b13 N x1 x2 x3 q1.2))
theorem bX12_then_0 {N : Nat} {x1 : Int32} {x2 : Int32} {x3 : Int32} {S : gS} {H : Heap} {locs : List Loc} {ls : Array Slot} {o : Int32 × gS} (C : gC p s m args meth c cX12_then 5 RX12 ((some .int)) D (mtys cI cS) mord g Am) (O : gO (mcell g cI cS sa) mord g) (X : gX D (mcell g cI cS sa) mord g S s H locs) (hl : lv_has ls 5 [(0, .ref (g 99)), (1, .int x1), (2, .int x2), (3, .int x3)]) (hF : fX12_then_b0 N x1 x2 x3 S = some o) : W p l e (rmd 7) s m args below meth c H locs 0 0 (gE below args s D (mtys cI cS) (mcell g cI cS sa) mord g (some (.int o.1)) o.2) (F0 m 0 ls []) := by
  unfold fX12_then_b0 at hF
  refine lv_aload_n C.1.1 C.1.2.1 dX12_then_0 rfl (lv_at hl 0 rfl) ?_
  refine lv_iconst (v := 0) C.1.1 C.1.2.1 dX12_then_1 (by decide) ?_
  obtain ⟨S1, eS1, hF⟩ := lt_some hF
  refine m_p4 C O X eS1 dX12_then_2 (fun H locs X => ?_)
  refine lv_aload_n C.1.1 C.1.2.1 dX12_then_5 rfl (lv_at hl 0 rfl) ?_
  refine lv_iload_n C.1.1 C.1.2.1 dX12_then_6 rfl (lv_at hl 1 rfl) ?_
  obtain ⟨q1, hq1, hF⟩ := bnd_some hF
  refine m_callVi C X vX12_isGuild rfl (kX12_isGuild O C.2.2.2.2.1 N x1  S1 q1 hq1) (Nat.le_of_ble_eq_true rfl) (Nat.le_of_ble_eq_true rfl) (Nat.le_of_ble_eq_true rfl) (Nat.le_of_ble_eq_true rfl) rfl hl.1 rfl (Nat.le_of_ble_eq_true rfl) dX12_then_7 (fun H locs X => ?_)
  refine lv_if_eq (tgt := 25) C.1.1 C.1.2.1 dX12_then_10 (by decide) (fun h_z => ?_) (fun h_z => ?_)
  · rw [if_pos h_z] at hF
    exact bX12_then_25 C O X (lv_sub hl [0] rfl) hF
  · rw [if_neg h_z] at hF
    exact bX12_then_13 C O X (lv_sub hl [0, 1, 2, 3] rfl) hF
noncomputable def fX12_then (N : Nat) (x1 : Int32) (x2 : Int32) (x3 : Int32) (S : gS) : Option (Int32 × gS) := fX12_then_b0 N x1 x2 x3 S
theorem kX12_then {l : Launch} {D : va_G} {g : Nat → Nat} {cI cS : ClassId} {sa : Nat → Nat → Option Nat} {Am : (Nat → Prop) → State → Heap → Prop} (O : gO (mcell g cI cS sa) mord g) (P : gAm Am) (N : Nat) (x1 : Int32) (x2 : Int32) (x3 : Int32) (S : gS) (o : Int32 × gS) (hF : fX12_then N x1 x2 x3 S = some o) : gM l yX12_then cX12_then 5 ((some .int)) 7 D (mtys cI cS) (mcell g cI cS sa) mord g Am [.ref (g 99), .int x1, .int x2, .int x3] S (some (.int o.1)) o.2 :=
  gM_of O P (by decide) (Nat.le_of_ble_eq_true rfl) (fun p e s m args below meth c ls C X hl => bX12_then_0 C O X (lv_sub hl [0, 1, 2, 3] rfl) hF)
-- dripping
noncomputable def fX12_dripping_b23 (N : Nat) (x1 : Int32) (S : gS) : Option (Int32 × gS) := bnd (fX12_pack N 46 0 S) fun q1 => (lt (sU q1.2 99 37 (((q1.2 99 37) + ((x1 - 1 : Int32)) : Int32))) fun S2 => (bnd (fX12_drippingNow N  S2) fun q2 => (bnd (fX12_unpack N 46 0 q2.2) fun q3 => (some (q2.1, q3.2)))))
theorem bX12_dripping_23 {N : Nat} {x1 : Int32} {S : gS} {H : Heap} {locs : List Loc} {ls : Array Slot} {o : Int32 × gS} (C : gC p s m args meth c cX12_dripping 3 RX12 ((some .int)) D (mtys cI cS) mord g Am) (O : gO (mcell g cI cS sa) mord g) (X : gX D (mcell g cI cS sa) mord g S s H locs) (hl : lv_has ls 3 [(0, .ref (g 99)), (1, .int x1)]) (hF : fX12_dripping_b23 N x1 S = some o) : W p l e (rmd 2) s m args below meth c H locs 0 0 (gE below args s D (mtys cI cS) (mcell g cI cS sa) mord g (some (.int o.1)) o.2) (F0 m 23 ls []) := by
  unfold fX12_dripping_b23 at hF
  refine lv_aload_n C.1.1 C.1.2.1 dX12_dripping_23 rfl (lv_at hl 0 rfl) ?_
  refine lv_aload_n C.1.1 C.1.2.1 dX12_dripping_24 rfl (lv_at hl 0 rfl) ?_
  refine m_g46 C X dX12_dripping_25 ?_
  refine lv_iconst (v := 0) C.1.1 C.1.2.1 dX12_dripping_28 (by decide) ?_
  obtain ⟨q1, hq1, hF⟩ := bnd_some hF
  refine m_callV C X vX12_pack rfl (kX12_pack O C.2.2.2.2.1 N 46 0 (rfl : mI 46 = true) S q1 hq1) (Nat.le_of_ble_eq_true rfl) (Nat.le_of_ble_eq_true rfl) (Nat.le_of_ble_eq_true rfl) (Nat.le_of_ble_eq_true rfl) rfl hl.1 rfl (Nat.le_of_ble_eq_true rfl) dX12_dripping_29 (fun H locs X => ?_)
  refine lv_aload_n C.1.1 C.1.2.1 dX12_dripping_32 rfl (lv_at hl 0 rfl) ?_
  refine lv_dup C.1.1 C.1.2.1 dX12_dripping_33 rfl ?_
  refine m_g37 C X dX12_dripping_34 ?_
  refine lv_iload_n C.1.1 C.1.2.1 dX12_dripping_37 rfl (lv_at hl 1 rfl) ?_
  refine lv_iconst (v := 1) C.1.1 C.1.2.1 dX12_dripping_38 (by decide) ?_
  refine lv_isub C.1.1 C.1.2.1 dX12_dripping_39 ?_
  refine lv_iadd C.1.1 C.1.2.1 dX12_dripping_40 ?_
  obtain ⟨S2, eS2, hF⟩ := lt_some hF
  refine m_p37 C O X eS2 dX12_dripping_41 (fun H locs X => ?_)
  refine lv_aload_n C.1.1 C.1.2.1 dX12_dripping_44 rfl (lv_at hl 0 rfl) ?_
  obtain ⟨q2, hq2, hF⟩ := bnd_some hF
  refine m_callVi C X vX12_drippingNow rfl (kX12_drippingNow O C.2.2.2.2.1 N   S2 q2 hq2) (Nat.le_of_ble_eq_true rfl) (Nat.le_of_ble_eq_true rfl) (Nat.le_of_ble_eq_true rfl) (Nat.le_of_ble_eq_true rfl) rfl hl.1 rfl (Nat.le_of_ble_eq_true rfl) dX12_dripping_45 (fun H locs X => ?_)
  refine lv_istore_n (lv' := [(2, .int q2.1), (0, .ref (g 99)), (1, .int x1)]) C.1.1 C.1.2.1 dX12_dripping_48 rfl hl (by decide) rfl (fun ls hl => ?_)
  refine lv_aload_n C.1.1 C.1.2.1 dX12_dripping_49 rfl (lv_at hl 1 rfl) ?_
  refine lv_aload_n C.1.1 C.1.2.1 dX12_dripping_50 rfl (lv_at hl 1 rfl) ?_
  refine m_g46 C X dX12_dripping_51 ?_
  refine lv_iconst (v := 0) C.1.1 C.1.2.1 dX12_dripping_54 (by decide) ?_
  obtain ⟨q3, hq3, hF⟩ := bnd_some hF
  refine m_callV C X vX12_unpack rfl (kX12_unpack O C.2.2.2.2.1 N 46 0 (rfl : mI 46 = true) q2.2 q3 hq3) (Nat.le_of_ble_eq_true rfl) (Nat.le_of_ble_eq_true rfl) (Nat.le_of_ble_eq_true rfl) (Nat.le_of_ble_eq_true rfl) rfl hl.1 rfl (Nat.le_of_ble_eq_true rfl) dX12_dripping_55 (fun H locs X => ?_)
  refine lv_iload_n C.1.1 C.1.2.1 dX12_dripping_58 rfl (lv_at hl 0 rfl) ?_
  cases hF
  exact g_iret C X dX12_dripping_59
noncomputable def fX12_dripping_b17 (N : Nat) (S : gS) : Option (Int32 × gS) := bnd (fX12_fail N 1 S) fun q1 => (some (q1.1, q1.2))
theorem bX12_dripping_17 {N : Nat} {S : gS} {H : Heap} {locs : List Loc} {ls : Array Slot} {o : Int32 × gS} (C : gC p s m args meth c cX12_dripping 3 RX12 ((some .int)) D (mtys cI cS) mord g Am) (O : gO (mcell g cI cS sa) mord g) (X : gX D (mcell g cI cS sa) mord g S s H locs) (hl : lv_has ls 3 [(0, .ref (g 99))]) (hF : fX12_dripping_b17 N S = some o) : W p l e (rmd 2) s m args below meth c H locs 0 0 (gE below args s D (mtys cI cS) (mcell g cI cS sa) mord g (some (.int o.1)) o.2) (F0 m 17 ls []) := by
  unfold fX12_dripping_b17 at hF
  refine lv_aload_n C.1.1 C.1.2.1 dX12_dripping_17 rfl (lv_at hl 0 rfl) ?_
  refine lv_iconst (v := 1) C.1.1 C.1.2.1 dX12_dripping_18 (by decide) ?_
  obtain ⟨q1, hq1, hF⟩ := bnd_some hF
  refine m_callVi C X vX12_fail rfl (kX12_fail O C.2.2.2.2.1 N 1  S q1 hq1) (Nat.le_of_ble_eq_true rfl) (Nat.le_of_ble_eq_true rfl) (Nat.le_of_ble_eq_true rfl) (Nat.le_of_ble_eq_true rfl) rfl hl.1 rfl (Nat.le_of_ble_eq_true rfl) dX12_dripping_19 (fun H locs X => ?_)
  cases hF
  exact g_iret C X dX12_dripping_22
noncomputable def fX12_dripping_b0 (N : Nat) (x1 : Int32) (S : gS) : Option (Int32 × gS) := lt (sU S 99 4 0) fun S1 => (bnd (fX12_isIn N (Int32.toInt64 x1) 1 60 S1) fun q1 => (if q1.1 = 0 then fX12_dripping_b17 N q1.2 else fX12_dripping_b23 N x1 q1.2))
theorem bX12_dripping_0 {N : Nat} {x1 : Int32} {S : gS} {H : Heap} {locs : List Loc} {ls : Array Slot} {o : Int32 × gS} (C : gC p s m args meth c cX12_dripping 3 RX12 ((some .int)) D (mtys cI cS) mord g Am) (O : gO (mcell g cI cS sa) mord g) (X : gX D (mcell g cI cS sa) mord g S s H locs) (hl : lv_has ls 3 [(0, .ref (g 99)), (1, .int x1)]) (hF : fX12_dripping_b0 N x1 S = some o) : W p l e (rmd 2) s m args below meth c H locs 0 0 (gE below args s D (mtys cI cS) (mcell g cI cS sa) mord g (some (.int o.1)) o.2) (F0 m 0 ls []) := by
  unfold fX12_dripping_b0 at hF
  refine lv_aload_n C.1.1 C.1.2.1 dX12_dripping_0 rfl (lv_at hl 0 rfl) ?_
  refine lv_iconst (v := 0) C.1.1 C.1.2.1 dX12_dripping_1 (by decide) ?_
  obtain ⟨S1, eS1, hF⟩ := lt_some hF
  refine m_p4 C O X eS1 dX12_dripping_2 (fun H locs X => ?_)
  refine lv_iload_n C.1.1 C.1.2.1 dX12_dripping_5 rfl (lv_at hl 1 rfl) ?_
  refine lv_i2l (v := Int32.toInt64 x1) C.1.1 C.1.2.1 dX12_dripping_6 rfl ?_
  refine lv_lconst (v := 1) C.1.1 C.1.2.1 dX12_dripping_7 (by decide) ?_
  refine lv_ldc2 C.1.1 C.1.2.1 C.1.2.2.2.1 (C.1.2.2.2.2 _ mKL432) dX12_dripping_8 ?_
  obtain ⟨q1, hq1, hF⟩ := bnd_some hF
  refine g_callSi C X vX12_isIn (kX12_isIn O C.2.2.2.2.1 N (Int32.toInt64 x1) 1 60  S1 q1 hq1) (Nat.le_of_ble_eq_true rfl) (Nat.le_of_ble_eq_true rfl) (Nat.le_of_ble_eq_true rfl) (Nat.le_of_ble_eq_true rfl) rfl hl.1 rfl (Nat.le_of_ble_eq_true rfl) dX12_dripping_11 (fun H locs X => ?_)
  refine lv_if_ne (tgt := 23) C.1.1 C.1.2.1 dX12_dripping_14 (by decide) (fun h_z => ?_) (fun h_z => ?_)
  · rw [if_neg h_z] at hF
    exact bX12_dripping_23 C O X (lv_sub hl [0, 1] rfl) hF
  · rw [if_pos h_z] at hF
    exact bX12_dripping_17 C O X (lv_sub hl [0] rfl) hF
noncomputable def fX12_dripping (N : Nat) (x1 : Int32) (S : gS) : Option (Int32 × gS) := fX12_dripping_b0 N x1 S
theorem kX12_dripping {l : Launch} {D : va_G} {g : Nat → Nat} {cI cS : ClassId} {sa : Nat → Nat → Option Nat} {Am : (Nat → Prop) → State → Heap → Prop} (O : gO (mcell g cI cS sa) mord g) (P : gAm Am) (N : Nat) (x1 : Int32) (S : gS) (o : Int32 × gS) (hF : fX12_dripping N x1 S = some o) : gM l yX12_dripping cX12_dripping 3 ((some .int)) 2 D (mtys cI cS) (mcell g cI cS sa) mord g Am [.ref (g 99), .int x1] S (some (.int o.1)) o.2 :=
  gM_of O P (by decide) (Nat.le_of_ble_eq_true rfl) (fun p e s m args below meth c ls C X hl => bX12_dripping_0 C O X (lv_sub hl [0, 1] rfl) hF)
-- first
noncomputable def fX12_first_b66 (N : Nat) (x2 : Int32) (S : gS) : Option (Int32 × gS) := bnd (fX12_unpack N 46 0 S) fun q1 => (some (x2, q1.2))
theorem bX12_first_66 {N : Nat} {x2 : Int32} {S : gS} {H : Heap} {locs : List Loc} {ls : Array Slot} {o : Int32 × gS} (C : gC p s m args meth c cX12_first 4 RX12 ((some .int)) D (mtys cI cS) mord g Am) (O : gO (mcell g cI cS sa) mord g) (X : gX D (mcell g cI cS sa) mord g S s H locs) (hl : lv_has ls 4 [(0, .ref (g 99)), (2, .int x2)]) (hF : fX12_first_b66 N x2 S = some o) : W p l e (rmd 6) s m args below meth c H locs 0 0 (gE below args s D (mtys cI cS) (mcell g cI cS sa) mord g (some (.int o.1)) o.2) (F0 m 66 ls []) := by
  unfold fX12_first_b66 at hF
  refine lv_aload_n C.1.1 C.1.2.1 dX12_first_66 rfl (lv_at hl 0 rfl) ?_
  refine lv_aload_n C.1.1 C.1.2.1 dX12_first_67 rfl (lv_at hl 0 rfl) ?_
  refine m_g46 C X dX12_first_68 ?_
  refine lv_iconst (v := 0) C.1.1 C.1.2.1 dX12_first_71 (by decide) ?_
  obtain ⟨q1, hq1, hF⟩ := bnd_some hF
  refine m_callV C X vX12_unpack rfl (kX12_unpack O C.2.2.2.2.1 N 46 0 (rfl : mI 46 = true) S q1 hq1) (Nat.le_of_ble_eq_true rfl) (Nat.le_of_ble_eq_true rfl) (Nat.le_of_ble_eq_true rfl) (Nat.le_of_ble_eq_true rfl) rfl hl.1 rfl (Nat.le_of_ble_eq_true rfl) dX12_first_72 (fun H locs X => ?_)
  refine lv_iload_n C.1.1 C.1.2.1 dX12_first_75 rfl (lv_at hl 1 rfl) ?_
  cases hF
  exact g_iret C X dX12_first_76
noncomputable def fX12_first_b60 (N : Nat) (r32 : Int32 → Int32 → Int32 → gS → Option (Int32 × gS)) (x1 : Int32) (x2 : Int32) (x3 : Int32) (S : gS) : Option (Int32 × gS) := r32 x1 x2 ((x3 + 1 : Int32)) S
theorem bX12_first_60 {N : Nat} {r32 : Int32 → Int32 → Int32 → gS → Option (Int32 × gS)} {x1 : Int32} {x2 : Int32} {x3 : Int32} {S : gS} {H : Heap} {locs : List Loc} {ls : Array Slot} {o : Int32 × gS} (C : gC p s m args meth c cX12_first 4 RX12 ((some .int)) D (mtys cI cS) mord g Am) (O : gO (mcell g cI cS sa) mord g) (K32 : ∀ (x1 : Int32) (x2 : Int32) (x3 : Int32) (S : gS) (H : Heap) (locs : List Loc) (ls : Array Slot), gX D (mcell g cI cS sa) mord g S s H locs → lv_has ls 4 [(0, .ref (g 99)), (1, .int x1), (2, .int x2), (3, .int x3)] → r32 x1 x2 x3 S = some o → W p l e (rmd 6) s m args below meth c H locs 0 0 (gE below args s D (mtys cI cS) (mcell g cI cS sa) mord g (some (.int o.1)) o.2) (F0 m 32 ls [])) (X : gX D (mcell g cI cS sa) mord g S s H locs) (hl : lv_has ls 4 [(0, .ref (g 99)), (1, .int x1), (2, .int x2), (3, .int x3)]) (hF : fX12_first_b60 N r32 x1 x2 x3 S = some o) : W p l e (rmd 6) s m args below meth c H locs 0 0 (gE below args s D (mtys cI cS) (mcell g cI cS sa) mord g (some (.int o.1)) o.2) (F0 m 60 ls []) := by
  unfold fX12_first_b60 at hF
  refine lv_iinc (v := (x3 + 1 : Int32)) (lv' := [(3, .int ((x3 + 1 : Int32))), (0, .ref (g 99)), (1, .int x1), (2, .int x2)]) C.1.1 C.1.2.1 dX12_first_60 hl (k := 3) rfl rfl (by decide) rfl (fun ls hl => ?_)
  refine lv_goto (tgt := 32) C.1.1 C.1.2.1 dX12_first_63 (by decide) ?_
  exact K32 _ _ _ _ _ _ _ X (lv_sub hl [1, 2, 3, 0] rfl) hF
noncomputable def fX12_first_b58 (N : Nat) (r32 : Int32 → Int32 → Int32 → gS → Option (Int32 × gS)) (x1 : Int32) (x3 : Int32) (S : gS) : Option (Int32 × gS) := fX12_first_b60 N r32 x1 x3 x3 S
theorem bX12_first_58 {N : Nat} {r32 : Int32 → Int32 → Int32 → gS → Option (Int32 × gS)} {x1 : Int32} {x3 : Int32} {S : gS} {H : Heap} {locs : List Loc} {ls : Array Slot} {o : Int32 × gS} (C : gC p s m args meth c cX12_first 4 RX12 ((some .int)) D (mtys cI cS) mord g Am) (O : gO (mcell g cI cS sa) mord g) (K32 : ∀ (x1 : Int32) (x2 : Int32) (x3 : Int32) (S : gS) (H : Heap) (locs : List Loc) (ls : Array Slot), gX D (mcell g cI cS sa) mord g S s H locs → lv_has ls 4 [(0, .ref (g 99)), (1, .int x1), (2, .int x2), (3, .int x3)] → r32 x1 x2 x3 S = some o → W p l e (rmd 6) s m args below meth c H locs 0 0 (gE below args s D (mtys cI cS) (mcell g cI cS sa) mord g (some (.int o.1)) o.2) (F0 m 32 ls [])) (X : gX D (mcell g cI cS sa) mord g S s H locs) (hl : lv_has ls 4 [(0, .ref (g 99)), (1, .int x1), (3, .int x3)]) (hF : fX12_first_b58 N r32 x1 x3 S = some o) : W p l e (rmd 6) s m args below meth c H locs 0 0 (gE below args s D (mtys cI cS) (mcell g cI cS sa) mord g (some (.int o.1)) o.2) (F0 m 58 ls []) := by
  unfold fX12_first_b58 at hF
  refine lv_iload_n C.1.1 C.1.2.1 dX12_first_58 rfl (lv_at hl 2 rfl) ?_
  refine lv_istore_n (lv' := [(2, .int x3), (0, .ref (g 99)), (1, .int x1), (3, .int x3)]) C.1.1 C.1.2.1 dX12_first_59 rfl hl (by decide) rfl (fun ls hl => ?_)
  exact bX12_first_60 C O K32 X (lv_sub hl [1, 2, 0, 3] rfl) hF
noncomputable def fX12_first_b43 (N : Nat) (r32 : Int32 → Int32 → Int32 → gS → Option (Int32 × gS)) (x1 : Int32) (x2 : Int32) (x3 : Int32) (S : gS) : Option (Int32 × gS) := bnd (fX12_anHour N  S) fun q1 => (bnd (fX12_isOf N (q1.2 99 45) x1 q1.2) fun q2 => (if q2.1 = 0 then fX12_first_b60 N r32 x1 x2 x3 q2.2 else fX12_first_b58 N r32 x1 x3 q2.2))
theorem bX12_first_43 {N : Nat} {r32 : Int32 → Int32 → Int32 → gS → Option (Int32 × gS)} {x1 : Int32} {x2 : Int32} {x3 : Int32} {S : gS} {H : Heap} {locs : List Loc} {ls : Array Slot} {o : Int32 × gS} (C : gC p s m args meth c cX12_first 4 RX12 ((some .int)) D (mtys cI cS) mord g Am) (O : gO (mcell g cI cS sa) mord g) (K32 : ∀ (x1 : Int32) (x2 : Int32) (x3 : Int32) (S : gS) (H : Heap) (locs : List Loc) (ls : Array Slot), gX D (mcell g cI cS sa) mord g S s H locs → lv_has ls 4 [(0, .ref (g 99)), (1, .int x1), (2, .int x2), (3, .int x3)] → r32 x1 x2 x3 S = some o → W p l e (rmd 6) s m args below meth c H locs 0 0 (gE below args s D (mtys cI cS) (mcell g cI cS sa) mord g (some (.int o.1)) o.2) (F0 m 32 ls [])) (X : gX D (mcell g cI cS sa) mord g S s H locs) (hl : lv_has ls 4 [(0, .ref (g 99)), (1, .int x1), (2, .int x2), (3, .int x3)]) (hF : fX12_first_b43 N r32 x1 x2 x3 S = some o) : W p l e (rmd 6) s m args below meth c H locs 0 0 (gE below args s D (mtys cI cS) (mcell g cI cS sa) mord g (some (.int o.1)) o.2) (F0 m 43 ls []) := by
  unfold fX12_first_b43 at hF
  refine lv_aload_n C.1.1 C.1.2.1 dX12_first_43 rfl (lv_at hl 0 rfl) ?_
  obtain ⟨q1, hq1, hF⟩ := bnd_some hF
  refine m_callV C X vX12_anHour rfl (kX12_anHour O C.2.2.2.2.1 N   S q1 hq1) (Nat.le_of_ble_eq_true rfl) (Nat.le_of_ble_eq_true rfl) (Nat.le_of_ble_eq_true rfl) (Nat.le_of_ble_eq_true rfl) rfl hl.1 rfl (Nat.le_of_ble_eq_true rfl) dX12_first_44 (fun H locs X => ?_)
  refine lv_aload_n C.1.1 C.1.2.1 dX12_first_47 rfl (lv_at hl 0 rfl) ?_
  refine m_g45 C X dX12_first_48 ?_
  refine lv_iload_n C.1.1 C.1.2.1 dX12_first_51 rfl (lv_at hl 1 rfl) ?_
  obtain ⟨q2, hq2, hF⟩ := bnd_some hF
  refine g_callSi C X vX12_isOf (kX12_isOf O C.2.2.2.2.1 N (q1.2 99 45) x1  q1.2 q2 hq2) (Nat.le_of_ble_eq_true rfl) (Nat.le_of_ble_eq_true rfl) (Nat.le_of_ble_eq_true rfl) (Nat.le_of_ble_eq_true rfl) rfl hl.1 rfl (Nat.le_of_ble_eq_true rfl) dX12_first_52 (fun H locs X => ?_)
  refine lv_if_eq (tgt := 60) C.1.1 C.1.2.1 dX12_first_55 (by decide) (fun h_z => ?_) (fun h_z => ?_)
  · rw [if_pos h_z] at hF
    exact bX12_first_60 C O K32 X (lv_sub hl [0, 1, 2, 3] rfl) hF
  · rw [if_neg h_z] at hF
    exact bX12_first_58 C O K32 X (lv_sub hl [0, 1, 3] rfl) hF
noncomputable def fX12_first_b38 (N : Nat) (r32 : Int32 → Int32 → Int32 → gS → Option (Int32 × gS)) (x1 : Int32) (x2 : Int32) (x3 : Int32) (S : gS) : Option (Int32 × gS) := if x2 = ((-1)) then fX12_first_b43 N r32 x1 x2 x3 S else fX12_first_b66 N x2 S
theorem bX12_first_38 {N : Nat} {r32 : Int32 → Int32 → Int32 → gS → Option (Int32 × gS)} {x1 : Int32} {x2 : Int32} {x3 : Int32} {S : gS} {H : Heap} {locs : List Loc} {ls : Array Slot} {o : Int32 × gS} (C : gC p s m args meth c cX12_first 4 RX12 ((some .int)) D (mtys cI cS) mord g Am) (O : gO (mcell g cI cS sa) mord g) (K32 : ∀ (x1 : Int32) (x2 : Int32) (x3 : Int32) (S : gS) (H : Heap) (locs : List Loc) (ls : Array Slot), gX D (mcell g cI cS sa) mord g S s H locs → lv_has ls 4 [(0, .ref (g 99)), (1, .int x1), (2, .int x2), (3, .int x3)] → r32 x1 x2 x3 S = some o → W p l e (rmd 6) s m args below meth c H locs 0 0 (gE below args s D (mtys cI cS) (mcell g cI cS sa) mord g (some (.int o.1)) o.2) (F0 m 32 ls [])) (X : gX D (mcell g cI cS sa) mord g S s H locs) (hl : lv_has ls 4 [(0, .ref (g 99)), (1, .int x1), (2, .int x2), (3, .int x3)]) (hF : fX12_first_b38 N r32 x1 x2 x3 S = some o) : W p l e (rmd 6) s m args below meth c H locs 0 0 (gE below args s D (mtys cI cS) (mcell g cI cS sa) mord g (some (.int o.1)) o.2) (F0 m 38 ls []) := by
  unfold fX12_first_b38 at hF
  refine lv_iload_n C.1.1 C.1.2.1 dX12_first_38 rfl (lv_at hl 2 rfl) ?_
  refine lv_iconst (v := (-1)) C.1.1 C.1.2.1 dX12_first_39 (by decide) ?_
  refine lv_icmp_ne (tgt := 66) C.1.1 C.1.2.1 dX12_first_40 (by decide) (fun h_z => ?_) (fun h_z => ?_)
  · rw [if_neg h_z] at hF
    exact bX12_first_66 C O X (lv_sub hl [0, 2] rfl) hF
  · rw [if_pos h_z] at hF
    exact bX12_first_43 C O K32 X (lv_sub hl [0, 1, 2, 3] rfl) hF
noncomputable def fX12_first_b32 (N : Nat) (r32 : Int32 → Int32 → Int32 → gS → Option (Int32 × gS)) (x1 : Int32) (x2 : Int32) (x3 : Int32) (S : gS) : Option (Int32 × gS) := if 60 < x3 then fX12_first_b66 N x2 S else fX12_first_b38 N r32 x1 x2 x3 S
theorem bX12_first_32 {N : Nat} {r32 : Int32 → Int32 → Int32 → gS → Option (Int32 × gS)} {x1 : Int32} {x2 : Int32} {x3 : Int32} {S : gS} {H : Heap} {locs : List Loc} {ls : Array Slot} {o : Int32 × gS} (C : gC p s m args meth c cX12_first 4 RX12 ((some .int)) D (mtys cI cS) mord g Am) (O : gO (mcell g cI cS sa) mord g) (K32 : ∀ (x1 : Int32) (x2 : Int32) (x3 : Int32) (S : gS) (H : Heap) (locs : List Loc) (ls : Array Slot), gX D (mcell g cI cS sa) mord g S s H locs → lv_has ls 4 [(0, .ref (g 99)), (1, .int x1), (2, .int x2), (3, .int x3)] → r32 x1 x2 x3 S = some o → W p l e (rmd 6) s m args below meth c H locs 0 0 (gE below args s D (mtys cI cS) (mcell g cI cS sa) mord g (some (.int o.1)) o.2) (F0 m 32 ls [])) (X : gX D (mcell g cI cS sa) mord g S s H locs) (hl : lv_has ls 4 [(0, .ref (g 99)), (1, .int x1), (2, .int x2), (3, .int x3)]) (hF : fX12_first_b32 N r32 x1 x2 x3 S = some o) : W p l e (rmd 6) s m args below meth c H locs 0 0 (gE below args s D (mtys cI cS) (mcell g cI cS sa) mord g (some (.int o.1)) o.2) (F0 m 32 ls []) := by
  unfold fX12_first_b32 at hF
  refine lv_iload_n C.1.1 C.1.2.1 dX12_first_32 rfl (lv_at hl 3 rfl) ?_
  refine lv_bipush (v := 60) C.1.1 C.1.2.1 dX12_first_33 (by decide) ?_
  refine lv_icmp_gt (tgt := 66) C.1.1 C.1.2.1 dX12_first_35 (by decide) (fun h_z => ?_) (fun h_z => ?_)
  · rw [if_pos h_z] at hF
    exact bX12_first_66 C O X (lv_sub hl [0, 2] rfl) hF
  · rw [if_neg h_z] at hF
    exact bX12_first_38 C O K32 X (lv_sub hl [0, 1, 2, 3] rfl) hF
noncomputable def fX12_first_h32 (N : Nat) : Nat → Int32 → Int32 → Int32 → gS → Option (Int32 × gS)
  | 0, _, _, _, _ => none
  | n + 1, x1, x2, x3, S => fX12_first_b32 N (fX12_first_h32 N n) x1 x2 x3 S
theorem hX12_first_32 {N : Nat} {o : Int32 × gS} (C : gC p s m args meth c cX12_first 4 RX12 ((some .int)) D (mtys cI cS) mord g Am) (O : gO (mcell g cI cS sa) mord g) : ∀ (n : Nat) (x1 : Int32) (x2 : Int32) (x3 : Int32) (S : gS) (H : Heap) (locs : List Loc) (ls : Array Slot), gX D (mcell g cI cS sa) mord g S s H locs → lv_has ls 4 [(0, .ref (g 99)), (1, .int x1), (2, .int x2), (3, .int x3)] → fX12_first_h32 N n x1 x2 x3 S = some o → W p l e (rmd 6) s m args below meth c H locs 0 0 (gE below args s D (mtys cI cS) (mcell g cI cS sa) mord g (some (.int o.1)) o.2) (F0 m 32 ls []) := by
  intro n
  induction n with
  | zero =>
    intro x1 x2 x3 S H locs ls X hl hF
    exact absurd (show (none : Option (Int32 × gS)) = some o from hF) (by simp)
  | succ n ih =>
    intro x1 x2 x3 S H locs ls X hl hF
    have hF : fX12_first_b32 N (fX12_first_h32 N n) x1 x2 x3 S = some o := hF
    exact bX12_first_32 C O ih X hl hF
noncomputable def fX12_first_b19 (N : Nat) (x1 : Int32) (S : gS) : Option (Int32 × gS) := bnd (fX12_pack N 46 0 S) fun q1 => (fX12_first_h32 N N x1 ((-1)) 1 q1.2)
theorem bX12_first_19 {N : Nat} {x1 : Int32} {S : gS} {H : Heap} {locs : List Loc} {ls : Array Slot} {o : Int32 × gS} (C : gC p s m args meth c cX12_first 4 RX12 ((some .int)) D (mtys cI cS) mord g Am) (O : gO (mcell g cI cS sa) mord g) (X : gX D (mcell g cI cS sa) mord g S s H locs) (hl : lv_has ls 4 [(0, .ref (g 99)), (1, .int x1)]) (hF : fX12_first_b19 N x1 S = some o) : W p l e (rmd 6) s m args below meth c H locs 0 0 (gE below args s D (mtys cI cS) (mcell g cI cS sa) mord g (some (.int o.1)) o.2) (F0 m 19 ls []) := by
  unfold fX12_first_b19 at hF
  refine lv_aload_n C.1.1 C.1.2.1 dX12_first_19 rfl (lv_at hl 0 rfl) ?_
  refine lv_aload_n C.1.1 C.1.2.1 dX12_first_20 rfl (lv_at hl 0 rfl) ?_
  refine m_g46 C X dX12_first_21 ?_
  refine lv_iconst (v := 0) C.1.1 C.1.2.1 dX12_first_24 (by decide) ?_
  obtain ⟨q1, hq1, hF⟩ := bnd_some hF
  refine m_callV C X vX12_pack rfl (kX12_pack O C.2.2.2.2.1 N 46 0 (rfl : mI 46 = true) S q1 hq1) (Nat.le_of_ble_eq_true rfl) (Nat.le_of_ble_eq_true rfl) (Nat.le_of_ble_eq_true rfl) (Nat.le_of_ble_eq_true rfl) rfl hl.1 rfl (Nat.le_of_ble_eq_true rfl) dX12_first_25 (fun H locs X => ?_)
  refine lv_iconst (v := (-1)) C.1.1 C.1.2.1 dX12_first_28 (by decide) ?_
  refine lv_istore_n (lv' := [(2, .int ((-1))), (0, .ref (g 99)), (1, .int x1)]) C.1.1 C.1.2.1 dX12_first_29 rfl hl (by decide) rfl (fun ls hl => ?_)
  refine lv_iconst (v := 1) C.1.1 C.1.2.1 dX12_first_30 (by decide) ?_
  refine lv_istore_n (lv' := [(3, .int 1), (2, .int ((-1))), (0, .ref (g 99)), (1, .int x1)]) C.1.1 C.1.2.1 dX12_first_31 rfl hl (by decide) rfl (fun ls hl => ?_)
  exact hX12_first_32 C O N _ _ _ _ _ _ _ X (lv_sub hl [2, 3, 1, 0] rfl) hF
noncomputable def fX12_first_b13 (N : Nat) (S : gS) : Option (Int32 × gS) := bnd (fX12_fail N 1 S) fun q1 => (some (q1.1, q1.2))
theorem bX12_first_13 {N : Nat} {S : gS} {H : Heap} {locs : List Loc} {ls : Array Slot} {o : Int32 × gS} (C : gC p s m args meth c cX12_first 4 RX12 ((some .int)) D (mtys cI cS) mord g Am) (O : gO (mcell g cI cS sa) mord g) (X : gX D (mcell g cI cS sa) mord g S s H locs) (hl : lv_has ls 4 [(0, .ref (g 99))]) (hF : fX12_first_b13 N S = some o) : W p l e (rmd 6) s m args below meth c H locs 0 0 (gE below args s D (mtys cI cS) (mcell g cI cS sa) mord g (some (.int o.1)) o.2) (F0 m 13 ls []) := by
  unfold fX12_first_b13 at hF
  refine lv_aload_n C.1.1 C.1.2.1 dX12_first_13 rfl (lv_at hl 0 rfl) ?_
  refine lv_iconst (v := 1) C.1.1 C.1.2.1 dX12_first_14 (by decide) ?_
  obtain ⟨q1, hq1, hF⟩ := bnd_some hF
  refine m_callVi C X vX12_fail rfl (kX12_fail O C.2.2.2.2.1 N 1  S q1 hq1) (Nat.le_of_ble_eq_true rfl) (Nat.le_of_ble_eq_true rfl) (Nat.le_of_ble_eq_true rfl) (Nat.le_of_ble_eq_true rfl) rfl hl.1 rfl (Nat.le_of_ble_eq_true rfl) dX12_first_15 (fun H locs X => ?_)
  cases hF
  exact g_iret C X dX12_first_18
noncomputable def fX12_first_b0 (N : Nat) (x1 : Int32) (S : gS) : Option (Int32 × gS) := lt (sU S 99 4 0) fun S1 => (bnd (fX12_isGuild N x1 S1) fun q1 => (if q1.1 = 0 then fX12_first_b13 N q1.2 else fX12_first_b19 N x1 q1.2))
theorem bX12_first_0 {N : Nat} {x1 : Int32} {S : gS} {H : Heap} {locs : List Loc} {ls : Array Slot} {o : Int32 × gS} (C : gC p s m args meth c cX12_first 4 RX12 ((some .int)) D (mtys cI cS) mord g Am) (O : gO (mcell g cI cS sa) mord g) (X : gX D (mcell g cI cS sa) mord g S s H locs) (hl : lv_has ls 4 [(0, .ref (g 99)), (1, .int x1)]) (hF : fX12_first_b0 N x1 S = some o) : W p l e (rmd 6) s m args below meth c H locs 0 0 (gE below args s D (mtys cI cS) (mcell g cI cS sa) mord g (some (.int o.1)) o.2) (F0 m 0 ls []) := by
  unfold fX12_first_b0 at hF
  refine lv_aload_n C.1.1 C.1.2.1 dX12_first_0 rfl (lv_at hl 0 rfl) ?_
  refine lv_iconst (v := 0) C.1.1 C.1.2.1 dX12_first_1 (by decide) ?_
  obtain ⟨S1, eS1, hF⟩ := lt_some hF
  refine m_p4 C O X eS1 dX12_first_2 (fun H locs X => ?_)
  refine lv_aload_n C.1.1 C.1.2.1 dX12_first_5 rfl (lv_at hl 0 rfl) ?_
  refine lv_iload_n C.1.1 C.1.2.1 dX12_first_6 rfl (lv_at hl 1 rfl) ?_
  obtain ⟨q1, hq1, hF⟩ := bnd_some hF
  refine m_callVi C X vX12_isGuild rfl (kX12_isGuild O C.2.2.2.2.1 N x1  S1 q1 hq1) (Nat.le_of_ble_eq_true rfl) (Nat.le_of_ble_eq_true rfl) (Nat.le_of_ble_eq_true rfl) (Nat.le_of_ble_eq_true rfl) rfl hl.1 rfl (Nat.le_of_ble_eq_true rfl) dX12_first_7 (fun H locs X => ?_)
  refine lv_if_ne (tgt := 19) C.1.1 C.1.2.1 dX12_first_10 (by decide) (fun h_z => ?_) (fun h_z => ?_)
  · rw [if_neg h_z] at hF
    exact bX12_first_19 C O X (lv_sub hl [0, 1] rfl) hF
  · rw [if_pos h_z] at hF
    exact bX12_first_13 C O X (lv_sub hl [0] rfl) hF
noncomputable def fX12_first (N : Nat) (x1 : Int32) (S : gS) : Option (Int32 × gS) := fX12_first_b0 N x1 S
theorem kX12_first {l : Launch} {D : va_G} {g : Nat → Nat} {cI cS : ClassId} {sa : Nat → Nat → Option Nat} {Am : (Nat → Prop) → State → Heap → Prop} (O : gO (mcell g cI cS sa) mord g) (P : gAm Am) (N : Nat) (x1 : Int32) (S : gS) (o : Int32 × gS) (hF : fX12_first N x1 S = some o) : gM l yX12_first cX12_first 4 ((some .int)) 6 D (mtys cI cS) (mcell g cI cS sa) mord g Am [.ref (g 99), .int x1] S (some (.int o.1)) o.2 :=
  gM_of O P (by decide) (Nat.le_of_ble_eq_true rfl) (fun p e s m args below meth c ls C X hl => bX12_first_0 C O X (lv_sub hl [0, 1] rfl) hF)
-- dismissed
noncomputable def fX12_dismissed_b75 (N : Nat) (x2 : Int32) (S : gS) : Option (Int32 × gS) := bnd (fX12_unpack N 46 0 S) fun q1 => (some (x2, q1.2))
theorem bX12_dismissed_75 {N : Nat} {x2 : Int32} {S : gS} {H : Heap} {locs : List Loc} {ls : Array Slot} {o : Int32 × gS} (C : gC p s m args meth c cX12_dismissed 4 RX12 ((some .int)) D (mtys cI cS) mord g Am) (O : gO (mcell g cI cS sa) mord g) (X : gX D (mcell g cI cS sa) mord g S s H locs) (hl : lv_has ls 4 [(0, .ref (g 99)), (2, .int x2)]) (hF : fX12_dismissed_b75 N x2 S = some o) : W p l e (rmd 6) s m args below meth c H locs 0 0 (gE below args s D (mtys cI cS) (mcell g cI cS sa) mord g (some (.int o.1)) o.2) (F0 m 75 ls []) := by
  unfold fX12_dismissed_b75 at hF
  refine lv_aload_n C.1.1 C.1.2.1 dX12_dismissed_75 rfl (lv_at hl 0 rfl) ?_
  refine lv_aload_n C.1.1 C.1.2.1 dX12_dismissed_76 rfl (lv_at hl 0 rfl) ?_
  refine m_g46 C X dX12_dismissed_77 ?_
  refine lv_iconst (v := 0) C.1.1 C.1.2.1 dX12_dismissed_80 (by decide) ?_
  obtain ⟨q1, hq1, hF⟩ := bnd_some hF
  refine m_callV C X vX12_unpack rfl (kX12_unpack O C.2.2.2.2.1 N 46 0 (rfl : mI 46 = true) S q1 hq1) (Nat.le_of_ble_eq_true rfl) (Nat.le_of_ble_eq_true rfl) (Nat.le_of_ble_eq_true rfl) (Nat.le_of_ble_eq_true rfl) rfl hl.1 rfl (Nat.le_of_ble_eq_true rfl) dX12_dismissed_81 (fun H locs X => ?_)
  refine lv_iload_n C.1.1 C.1.2.1 dX12_dismissed_84 rfl (lv_at hl 1 rfl) ?_
  cases hF
  exact g_iret C X dX12_dismissed_85
noncomputable def fX12_dismissed_b69 (N : Nat) (r32 : Int32 → Int32 → Int32 → gS → Option (Int32 × gS)) (x1 : Int32) (x2 : Int32) (x3 : Int32) (S : gS) : Option (Int32 × gS) := r32 x1 x2 ((x3 + 1 : Int32)) S
theorem bX12_dismissed_69 {N : Nat} {r32 : Int32 → Int32 → Int32 → gS → Option (Int32 × gS)} {x1 : Int32} {x2 : Int32} {x3 : Int32} {S : gS} {H : Heap} {locs : List Loc} {ls : Array Slot} {o : Int32 × gS} (C : gC p s m args meth c cX12_dismissed 4 RX12 ((some .int)) D (mtys cI cS) mord g Am) (O : gO (mcell g cI cS sa) mord g) (K32 : ∀ (x1 : Int32) (x2 : Int32) (x3 : Int32) (S : gS) (H : Heap) (locs : List Loc) (ls : Array Slot), gX D (mcell g cI cS sa) mord g S s H locs → lv_has ls 4 [(0, .ref (g 99)), (1, .int x1), (2, .int x2), (3, .int x3)] → r32 x1 x2 x3 S = some o → W p l e (rmd 6) s m args below meth c H locs 0 0 (gE below args s D (mtys cI cS) (mcell g cI cS sa) mord g (some (.int o.1)) o.2) (F0 m 32 ls [])) (X : gX D (mcell g cI cS sa) mord g S s H locs) (hl : lv_has ls 4 [(0, .ref (g 99)), (1, .int x1), (2, .int x2), (3, .int x3)]) (hF : fX12_dismissed_b69 N r32 x1 x2 x3 S = some o) : W p l e (rmd 6) s m args below meth c H locs 0 0 (gE below args s D (mtys cI cS) (mcell g cI cS sa) mord g (some (.int o.1)) o.2) (F0 m 69 ls []) := by
  unfold fX12_dismissed_b69 at hF
  refine lv_iinc (v := (x3 + 1 : Int32)) (lv' := [(3, .int ((x3 + 1 : Int32))), (0, .ref (g 99)), (1, .int x1), (2, .int x2)]) C.1.1 C.1.2.1 dX12_dismissed_69 hl (k := 3) rfl rfl (by decide) rfl (fun ls hl => ?_)
  refine lv_goto (tgt := 32) C.1.1 C.1.2.1 dX12_dismissed_72 (by decide) ?_
  exact K32 _ _ _ _ _ _ _ X (lv_sub hl [1, 2, 3, 0] rfl) hF
noncomputable def fX12_dismissed_b67 (N : Nat) (r32 : Int32 → Int32 → Int32 → gS → Option (Int32 × gS)) (x1 : Int32) (x3 : Int32) (S : gS) : Option (Int32 × gS) := fX12_dismissed_b69 N r32 x1 x3 x3 S
theorem bX12_dismissed_67 {N : Nat} {r32 : Int32 → Int32 → Int32 → gS → Option (Int32 × gS)} {x1 : Int32} {x3 : Int32} {S : gS} {H : Heap} {locs : List Loc} {ls : Array Slot} {o : Int32 × gS} (C : gC p s m args meth c cX12_dismissed 4 RX12 ((some .int)) D (mtys cI cS) mord g Am) (O : gO (mcell g cI cS sa) mord g) (K32 : ∀ (x1 : Int32) (x2 : Int32) (x3 : Int32) (S : gS) (H : Heap) (locs : List Loc) (ls : Array Slot), gX D (mcell g cI cS sa) mord g S s H locs → lv_has ls 4 [(0, .ref (g 99)), (1, .int x1), (2, .int x2), (3, .int x3)] → r32 x1 x2 x3 S = some o → W p l e (rmd 6) s m args below meth c H locs 0 0 (gE below args s D (mtys cI cS) (mcell g cI cS sa) mord g (some (.int o.1)) o.2) (F0 m 32 ls [])) (X : gX D (mcell g cI cS sa) mord g S s H locs) (hl : lv_has ls 4 [(0, .ref (g 99)), (1, .int x1), (3, .int x3)]) (hF : fX12_dismissed_b67 N r32 x1 x3 S = some o) : W p l e (rmd 6) s m args below meth c H locs 0 0 (gE below args s D (mtys cI cS) (mcell g cI cS sa) mord g (some (.int o.1)) o.2) (F0 m 67 ls []) := by
  unfold fX12_dismissed_b67 at hF
  refine lv_iload_n C.1.1 C.1.2.1 dX12_dismissed_67 rfl (lv_at hl 2 rfl) ?_
  refine lv_istore_n (lv' := [(2, .int x3), (0, .ref (g 99)), (1, .int x1), (3, .int x3)]) C.1.1 C.1.2.1 dX12_dismissed_68 rfl hl (by decide) rfl (fun ls hl => ?_)
  exact bX12_dismissed_69 C O K32 X (lv_sub hl [1, 2, 0, 3] rfl) hF
noncomputable def fX12_dismissed_b53 (N : Nat) (r32 : Int32 → Int32 → Int32 → gS → Option (Int32 × gS)) (x1 : Int32) (x2 : Int32) (x3 : Int32) (S : gS) : Option (Int32 × gS) := bnd (fX12_anHour N  S) fun q1 => (chk (inb x1 (6)) (if (q1.2 35 (Int32.toNatClampNeg x1)) = ((-1)) then fX12_dismissed_b67 N r32 x1 x3 q1.2 else fX12_dismissed_b69 N r32 x1 x2 x3 q1.2))
theorem bX12_dismissed_53 {N : Nat} {r32 : Int32 → Int32 → Int32 → gS → Option (Int32 × gS)} {x1 : Int32} {x2 : Int32} {x3 : Int32} {S : gS} {H : Heap} {locs : List Loc} {ls : Array Slot} {o : Int32 × gS} (C : gC p s m args meth c cX12_dismissed 4 RX12 ((some .int)) D (mtys cI cS) mord g Am) (O : gO (mcell g cI cS sa) mord g) (K32 : ∀ (x1 : Int32) (x2 : Int32) (x3 : Int32) (S : gS) (H : Heap) (locs : List Loc) (ls : Array Slot), gX D (mcell g cI cS sa) mord g S s H locs → lv_has ls 4 [(0, .ref (g 99)), (1, .int x1), (2, .int x2), (3, .int x3)] → r32 x1 x2 x3 S = some o → W p l e (rmd 6) s m args below meth c H locs 0 0 (gE below args s D (mtys cI cS) (mcell g cI cS sa) mord g (some (.int o.1)) o.2) (F0 m 32 ls [])) (X : gX D (mcell g cI cS sa) mord g S s H locs) (hl : lv_has ls 4 [(0, .ref (g 99)), (1, .int x1), (2, .int x2), (3, .int x3)]) (hF : fX12_dismissed_b53 N r32 x1 x2 x3 S = some o) : W p l e (rmd 6) s m args below meth c H locs 0 0 (gE below args s D (mtys cI cS) (mcell g cI cS sa) mord g (some (.int o.1)) o.2) (F0 m 53 ls []) := by
  unfold fX12_dismissed_b53 at hF
  refine lv_aload_n C.1.1 C.1.2.1 dX12_dismissed_53 rfl (lv_at hl 0 rfl) ?_
  obtain ⟨q1, hq1, hF⟩ := bnd_some hF
  refine m_callV C X vX12_anHour rfl (kX12_anHour O C.2.2.2.2.1 N   S q1 hq1) (Nat.le_of_ble_eq_true rfl) (Nat.le_of_ble_eq_true rfl) (Nat.le_of_ble_eq_true rfl) (Nat.le_of_ble_eq_true rfl) rfl hl.1 rfl (Nat.le_of_ble_eq_true rfl) dX12_dismissed_54 (fun H locs X => ?_)
  refine lv_aload_n C.1.1 C.1.2.1 dX12_dismissed_57 rfl (lv_at hl 0 rfl) ?_
  refine m_g35 C X dX12_dismissed_58 ?_
  refine lv_iload_n C.1.1 C.1.2.1 dX12_dismissed_61 rfl (lv_at hl 1 rfl) ?_
  obtain ⟨h_1, hF⟩ := chk_some hF
  refine m_r35 C X  (inb_vp h_1) rfl dX12_dismissed_62 ?_
  refine lv_iconst (v := (-1)) C.1.1 C.1.2.1 dX12_dismissed_63 (by decide) ?_
  refine lv_icmp_ne (tgt := 69) C.1.1 C.1.2.1 dX12_dismissed_64 (by decide) (fun h_z => ?_) (fun h_z => ?_)
  · rw [if_neg h_z] at hF
    exact bX12_dismissed_69 C O K32 X (lv_sub hl [0, 1, 2, 3] rfl) hF
  · rw [if_pos h_z] at hF
    exact bX12_dismissed_67 C O K32 X (lv_sub hl [0, 1, 3] rfl) hF
noncomputable def fX12_dismissed_b43 (N : Nat) (r32 : Int32 → Int32 → Int32 → gS → Option (Int32 × gS)) (x1 : Int32) (x2 : Int32) (x3 : Int32) (S : gS) : Option (Int32 × gS) := chk (inb x1 (6)) (if (S 35 (Int32.toNatClampNeg x1)) = ((-1)) then fX12_dismissed_b75 N x2 S else fX12_dismissed_b53 N r32 x1 x2 x3 S)
theorem bX12_dismissed_43 {N : Nat} {r32 : Int32 → Int32 → Int32 → gS → Option (Int32 × gS)} {x1 : Int32} {x2 : Int32} {x3 : Int32} {S : gS} {H : Heap} {locs : List Loc} {ls : Array Slot} {o : Int32 × gS} (C : gC p s m args meth c cX12_dismissed 4 RX12 ((some .int)) D (mtys cI cS) mord g Am) (O : gO (mcell g cI cS sa) mord g) (K32 : ∀ (x1 : Int32) (x2 : Int32) (x3 : Int32) (S : gS) (H : Heap) (locs : List Loc) (ls : Array Slot), gX D (mcell g cI cS sa) mord g S s H locs → lv_has ls 4 [(0, .ref (g 99)), (1, .int x1), (2, .int x2), (3, .int x3)] → r32 x1 x2 x3 S = some o → W p l e (rmd 6) s m args below meth c H locs 0 0 (gE below args s D (mtys cI cS) (mcell g cI cS sa) mord g (some (.int o.1)) o.2) (F0 m 32 ls [])) (X : gX D (mcell g cI cS sa) mord g S s H locs) (hl : lv_has ls 4 [(0, .ref (g 99)), (1, .int x1), (2, .int x2), (3, .int x3)]) (hF : fX12_dismissed_b43 N r32 x1 x2 x3 S = some o) : W p l e (rmd 6) s m args below meth c H locs 0 0 (gE below args s D (mtys cI cS) (mcell g cI cS sa) mord g (some (.int o.1)) o.2) (F0 m 43 ls []) := by
  unfold fX12_dismissed_b43 at hF
  refine lv_aload_n C.1.1 C.1.2.1 dX12_dismissed_43 rfl (lv_at hl 0 rfl) ?_
  refine m_g35 C X dX12_dismissed_44 ?_
  refine lv_iload_n C.1.1 C.1.2.1 dX12_dismissed_47 rfl (lv_at hl 1 rfl) ?_
  obtain ⟨h_1, hF⟩ := chk_some hF
  refine m_r35 C X  (inb_vp h_1) rfl dX12_dismissed_48 ?_
  refine lv_iconst (v := (-1)) C.1.1 C.1.2.1 dX12_dismissed_49 (by decide) ?_
  refine lv_icmp_eq (tgt := 75) C.1.1 C.1.2.1 dX12_dismissed_50 (by decide) (fun h_z => ?_) (fun h_z => ?_)
  · rw [if_pos h_z] at hF
    exact bX12_dismissed_75 C O X (lv_sub hl [0, 2] rfl) hF
  · rw [if_neg h_z] at hF
    exact bX12_dismissed_53 C O K32 X (lv_sub hl [0, 1, 2, 3] rfl) hF
noncomputable def fX12_dismissed_b38 (N : Nat) (r32 : Int32 → Int32 → Int32 → gS → Option (Int32 × gS)) (x1 : Int32) (x2 : Int32) (x3 : Int32) (S : gS) : Option (Int32 × gS) := if x2 = ((-1)) then fX12_dismissed_b43 N r32 x1 x2 x3 S else fX12_dismissed_b75 N x2 S
theorem bX12_dismissed_38 {N : Nat} {r32 : Int32 → Int32 → Int32 → gS → Option (Int32 × gS)} {x1 : Int32} {x2 : Int32} {x3 : Int32} {S : gS} {H : Heap} {locs : List Loc} {ls : Array Slot} {o : Int32 × gS} (C : gC p s m args meth c cX12_dismissed 4 RX12 ((some .int)) D (mtys cI cS) mord g Am) (O : gO (mcell g cI cS sa) mord g) (K32 : ∀ (x1 : Int32) (x2 : Int32) (x3 : Int32) (S : gS) (H : Heap) (locs : List Loc) (ls : Array Slot), gX D (mcell g cI cS sa) mord g S s H locs → lv_has ls 4 [(0, .ref (g 99)), (1, .int x1), (2, .int x2), (3, .int x3)] → r32 x1 x2 x3 S = some o → W p l e (rmd 6) s m args below meth c H locs 0 0 (gE below args s D (mtys cI cS) (mcell g cI cS sa) mord g (some (.int o.1)) o.2) (F0 m 32 ls [])) (X : gX D (mcell g cI cS sa) mord g S s H locs) (hl : lv_has ls 4 [(0, .ref (g 99)), (1, .int x1), (2, .int x2), (3, .int x3)]) (hF : fX12_dismissed_b38 N r32 x1 x2 x3 S = some o) : W p l e (rmd 6) s m args below meth c H locs 0 0 (gE below args s D (mtys cI cS) (mcell g cI cS sa) mord g (some (.int o.1)) o.2) (F0 m 38 ls []) := by
  unfold fX12_dismissed_b38 at hF
  refine lv_iload_n C.1.1 C.1.2.1 dX12_dismissed_38 rfl (lv_at hl 2 rfl) ?_
  refine lv_iconst (v := (-1)) C.1.1 C.1.2.1 dX12_dismissed_39 (by decide) ?_
  refine lv_icmp_ne (tgt := 75) C.1.1 C.1.2.1 dX12_dismissed_40 (by decide) (fun h_z => ?_) (fun h_z => ?_)
  · rw [if_neg h_z] at hF
    exact bX12_dismissed_75 C O X (lv_sub hl [0, 2] rfl) hF
  · rw [if_pos h_z] at hF
    exact bX12_dismissed_43 C O K32 X (lv_sub hl [0, 1, 2, 3] rfl) hF
noncomputable def fX12_dismissed_b32 (N : Nat) (r32 : Int32 → Int32 → Int32 → gS → Option (Int32 × gS)) (x1 : Int32) (x2 : Int32) (x3 : Int32) (S : gS) : Option (Int32 × gS) := if 60 < x3 then fX12_dismissed_b75 N x2 S else fX12_dismissed_b38 N r32 x1 x2 x3 S
theorem bX12_dismissed_32 {N : Nat} {r32 : Int32 → Int32 → Int32 → gS → Option (Int32 × gS)} {x1 : Int32} {x2 : Int32} {x3 : Int32} {S : gS} {H : Heap} {locs : List Loc} {ls : Array Slot} {o : Int32 × gS} (C : gC p s m args meth c cX12_dismissed 4 RX12 ((some .int)) D (mtys cI cS) mord g Am) (O : gO (mcell g cI cS sa) mord g) (K32 : ∀ (x1 : Int32) (x2 : Int32) (x3 : Int32) (S : gS) (H : Heap) (locs : List Loc) (ls : Array Slot), gX D (mcell g cI cS sa) mord g S s H locs → lv_has ls 4 [(0, .ref (g 99)), (1, .int x1), (2, .int x2), (3, .int x3)] → r32 x1 x2 x3 S = some o → W p l e (rmd 6) s m args below meth c H locs 0 0 (gE below args s D (mtys cI cS) (mcell g cI cS sa) mord g (some (.int o.1)) o.2) (F0 m 32 ls [])) (X : gX D (mcell g cI cS sa) mord g S s H locs) (hl : lv_has ls 4 [(0, .ref (g 99)), (1, .int x1), (2, .int x2), (3, .int x3)]) (hF : fX12_dismissed_b32 N r32 x1 x2 x3 S = some o) : W p l e (rmd 6) s m args below meth c H locs 0 0 (gE below args s D (mtys cI cS) (mcell g cI cS sa) mord g (some (.int o.1)) o.2) (F0 m 32 ls []) := by
  unfold fX12_dismissed_b32 at hF
  refine lv_iload_n C.1.1 C.1.2.1 dX12_dismissed_32 rfl (lv_at hl 3 rfl) ?_
  refine lv_bipush (v := 60) C.1.1 C.1.2.1 dX12_dismissed_33 (by decide) ?_
  refine lv_icmp_gt (tgt := 75) C.1.1 C.1.2.1 dX12_dismissed_35 (by decide) (fun h_z => ?_) (fun h_z => ?_)
  · rw [if_pos h_z] at hF
    exact bX12_dismissed_75 C O X (lv_sub hl [0, 2] rfl) hF
  · rw [if_neg h_z] at hF
    exact bX12_dismissed_38 C O K32 X (lv_sub hl [0, 1, 2, 3] rfl) hF
noncomputable def fX12_dismissed_h32 (N : Nat) : Nat → Int32 → Int32 → Int32 → gS → Option (Int32 × gS)
  | 0, _, _, _, _ => none
  | n + 1, x1, x2, x3, S => fX12_dismissed_b32 N (fX12_dismissed_h32 N n) x1 x2 x3 S
theorem hX12_dismissed_32 {N : Nat} {o : Int32 × gS} (C : gC p s m args meth c cX12_dismissed 4 RX12 ((some .int)) D (mtys cI cS) mord g Am) (O : gO (mcell g cI cS sa) mord g) : ∀ (n : Nat) (x1 : Int32) (x2 : Int32) (x3 : Int32) (S : gS) (H : Heap) (locs : List Loc) (ls : Array Slot), gX D (mcell g cI cS sa) mord g S s H locs → lv_has ls 4 [(0, .ref (g 99)), (1, .int x1), (2, .int x2), (3, .int x3)] → fX12_dismissed_h32 N n x1 x2 x3 S = some o → W p l e (rmd 6) s m args below meth c H locs 0 0 (gE below args s D (mtys cI cS) (mcell g cI cS sa) mord g (some (.int o.1)) o.2) (F0 m 32 ls []) := by
  intro n
  induction n with
  | zero =>
    intro x1 x2 x3 S H locs ls X hl hF
    exact absurd (show (none : Option (Int32 × gS)) = some o from hF) (by simp)
  | succ n ih =>
    intro x1 x2 x3 S H locs ls X hl hF
    have hF : fX12_dismissed_b32 N (fX12_dismissed_h32 N n) x1 x2 x3 S = some o := hF
    exact bX12_dismissed_32 C O ih X hl hF
noncomputable def fX12_dismissed_b19 (N : Nat) (x1 : Int32) (S : gS) : Option (Int32 × gS) := bnd (fX12_pack N 46 0 S) fun q1 => (fX12_dismissed_h32 N N x1 ((-1)) 1 q1.2)
theorem bX12_dismissed_19 {N : Nat} {x1 : Int32} {S : gS} {H : Heap} {locs : List Loc} {ls : Array Slot} {o : Int32 × gS} (C : gC p s m args meth c cX12_dismissed 4 RX12 ((some .int)) D (mtys cI cS) mord g Am) (O : gO (mcell g cI cS sa) mord g) (X : gX D (mcell g cI cS sa) mord g S s H locs) (hl : lv_has ls 4 [(0, .ref (g 99)), (1, .int x1)]) (hF : fX12_dismissed_b19 N x1 S = some o) : W p l e (rmd 6) s m args below meth c H locs 0 0 (gE below args s D (mtys cI cS) (mcell g cI cS sa) mord g (some (.int o.1)) o.2) (F0 m 19 ls []) := by
  unfold fX12_dismissed_b19 at hF
  refine lv_aload_n C.1.1 C.1.2.1 dX12_dismissed_19 rfl (lv_at hl 0 rfl) ?_
  refine lv_aload_n C.1.1 C.1.2.1 dX12_dismissed_20 rfl (lv_at hl 0 rfl) ?_
  refine m_g46 C X dX12_dismissed_21 ?_
  refine lv_iconst (v := 0) C.1.1 C.1.2.1 dX12_dismissed_24 (by decide) ?_
  obtain ⟨q1, hq1, hF⟩ := bnd_some hF
  refine m_callV C X vX12_pack rfl (kX12_pack O C.2.2.2.2.1 N 46 0 (rfl : mI 46 = true) S q1 hq1) (Nat.le_of_ble_eq_true rfl) (Nat.le_of_ble_eq_true rfl) (Nat.le_of_ble_eq_true rfl) (Nat.le_of_ble_eq_true rfl) rfl hl.1 rfl (Nat.le_of_ble_eq_true rfl) dX12_dismissed_25 (fun H locs X => ?_)
  refine lv_iconst (v := (-1)) C.1.1 C.1.2.1 dX12_dismissed_28 (by decide) ?_
  refine lv_istore_n (lv' := [(2, .int ((-1))), (0, .ref (g 99)), (1, .int x1)]) C.1.1 C.1.2.1 dX12_dismissed_29 rfl hl (by decide) rfl (fun ls hl => ?_)
  refine lv_iconst (v := 1) C.1.1 C.1.2.1 dX12_dismissed_30 (by decide) ?_
  refine lv_istore_n (lv' := [(3, .int 1), (2, .int ((-1))), (0, .ref (g 99)), (1, .int x1)]) C.1.1 C.1.2.1 dX12_dismissed_31 rfl hl (by decide) rfl (fun ls hl => ?_)
  exact hX12_dismissed_32 C O N _ _ _ _ _ _ _ X (lv_sub hl [2, 3, 1, 0] rfl) hF
noncomputable def fX12_dismissed_b13 (N : Nat) (S : gS) : Option (Int32 × gS) := bnd (fX12_fail N 1 S) fun q1 => (some (q1.1, q1.2))
theorem bX12_dismissed_13 {N : Nat} {S : gS} {H : Heap} {locs : List Loc} {ls : Array Slot} {o : Int32 × gS} (C : gC p s m args meth c cX12_dismissed 4 RX12 ((some .int)) D (mtys cI cS) mord g Am) (O : gO (mcell g cI cS sa) mord g) (X : gX D (mcell g cI cS sa) mord g S s H locs) (hl : lv_has ls 4 [(0, .ref (g 99))]) (hF : fX12_dismissed_b13 N S = some o) : W p l e (rmd 6) s m args below meth c H locs 0 0 (gE below args s D (mtys cI cS) (mcell g cI cS sa) mord g (some (.int o.1)) o.2) (F0 m 13 ls []) := by
  unfold fX12_dismissed_b13 at hF
  refine lv_aload_n C.1.1 C.1.2.1 dX12_dismissed_13 rfl (lv_at hl 0 rfl) ?_
  refine lv_iconst (v := 1) C.1.1 C.1.2.1 dX12_dismissed_14 (by decide) ?_
  obtain ⟨q1, hq1, hF⟩ := bnd_some hF
  refine m_callVi C X vX12_fail rfl (kX12_fail O C.2.2.2.2.1 N 1  S q1 hq1) (Nat.le_of_ble_eq_true rfl) (Nat.le_of_ble_eq_true rfl) (Nat.le_of_ble_eq_true rfl) (Nat.le_of_ble_eq_true rfl) rfl hl.1 rfl (Nat.le_of_ble_eq_true rfl) dX12_dismissed_15 (fun H locs X => ?_)
  cases hF
  exact g_iret C X dX12_dismissed_18
noncomputable def fX12_dismissed_b0 (N : Nat) (x1 : Int32) (S : gS) : Option (Int32 × gS) := lt (sU S 99 4 0) fun S1 => (bnd (fX12_isGuild N x1 S1) fun q1 => (if q1.1 = 0 then fX12_dismissed_b13 N q1.2 else fX12_dismissed_b19 N x1 q1.2))
theorem bX12_dismissed_0 {N : Nat} {x1 : Int32} {S : gS} {H : Heap} {locs : List Loc} {ls : Array Slot} {o : Int32 × gS} (C : gC p s m args meth c cX12_dismissed 4 RX12 ((some .int)) D (mtys cI cS) mord g Am) (O : gO (mcell g cI cS sa) mord g) (X : gX D (mcell g cI cS sa) mord g S s H locs) (hl : lv_has ls 4 [(0, .ref (g 99)), (1, .int x1)]) (hF : fX12_dismissed_b0 N x1 S = some o) : W p l e (rmd 6) s m args below meth c H locs 0 0 (gE below args s D (mtys cI cS) (mcell g cI cS sa) mord g (some (.int o.1)) o.2) (F0 m 0 ls []) := by
  unfold fX12_dismissed_b0 at hF
  refine lv_aload_n C.1.1 C.1.2.1 dX12_dismissed_0 rfl (lv_at hl 0 rfl) ?_
  refine lv_iconst (v := 0) C.1.1 C.1.2.1 dX12_dismissed_1 (by decide) ?_
  obtain ⟨S1, eS1, hF⟩ := lt_some hF
  refine m_p4 C O X eS1 dX12_dismissed_2 (fun H locs X => ?_)
  refine lv_aload_n C.1.1 C.1.2.1 dX12_dismissed_5 rfl (lv_at hl 0 rfl) ?_
  refine lv_iload_n C.1.1 C.1.2.1 dX12_dismissed_6 rfl (lv_at hl 1 rfl) ?_
  obtain ⟨q1, hq1, hF⟩ := bnd_some hF
  refine m_callVi C X vX12_isGuild rfl (kX12_isGuild O C.2.2.2.2.1 N x1  S1 q1 hq1) (Nat.le_of_ble_eq_true rfl) (Nat.le_of_ble_eq_true rfl) (Nat.le_of_ble_eq_true rfl) (Nat.le_of_ble_eq_true rfl) rfl hl.1 rfl (Nat.le_of_ble_eq_true rfl) dX12_dismissed_7 (fun H locs X => ?_)
  refine lv_if_ne (tgt := 19) C.1.1 C.1.2.1 dX12_dismissed_10 (by decide) (fun h_z => ?_) (fun h_z => ?_)
  · rw [if_neg h_z] at hF
    exact bX12_dismissed_19 C O X (lv_sub hl [0, 1] rfl) hF
  · rw [if_pos h_z] at hF
    exact bX12_dismissed_13 C O X (lv_sub hl [0] rfl) hF
noncomputable def fX12_dismissed (N : Nat) (x1 : Int32) (S : gS) : Option (Int32 × gS) := fX12_dismissed_b0 N x1 S
theorem kX12_dismissed {l : Launch} {D : va_G} {g : Nat → Nat} {cI cS : ClassId} {sa : Nat → Nat → Option Nat} {Am : (Nat → Prop) → State → Heap → Prop} (O : gO (mcell g cI cS sa) mord g) (P : gAm Am) (N : Nat) (x1 : Int32) (S : gS) (o : Int32 × gS) (hF : fX12_dismissed N x1 S = some o) : gM l yX12_dismissed cX12_dismissed 4 ((some .int)) 6 D (mtys cI cS) (mcell g cI cS sa) mord g Am [.ref (g 99), .int x1] S (some (.int o.1)) o.2 :=
  gM_of O P (by decide) (Nat.le_of_ble_eq_true rfl) (fun p e s m args below meth c ls C X hl => bX12_dismissed_0 C O X (lv_sub hl [0, 1] rfl) hF)
-- greatest
noncomputable def fX12_greatest_b36 (N : Nat) (x2 : Int32) (S : gS) : Option (Int32 × gS) := some (x2, S)
theorem bX12_greatest_36 {N : Nat} {x2 : Int32} {S : gS} {H : Heap} {locs : List Loc} {ls : Array Slot} {o : Int32 × gS} (C : gC p s m args meth c cX12_greatest 4 RX12 ((some .int)) D (mtys cI cS) mord g Am) (O : gO (mcell g cI cS sa) mord g) (X : gX D (mcell g cI cS sa) mord g S s H locs) (hl : lv_has ls 4 [(2, .int x2)]) (hF : fX12_greatest_b36 N x2 S = some o) : W p l e (rmd 0) s m args below meth c H locs 0 0 (gE below args s D (mtys cI cS) (mcell g cI cS sa) mord g (some (.int o.1)) o.2) (F0 m 36 ls []) := by
  unfold fX12_greatest_b36 at hF
  refine lv_iload_n C.1.1 C.1.2.1 dX12_greatest_36 rfl (lv_at hl 0 rfl) ?_
  cases hF
  exact g_iret C X dX12_greatest_37
noncomputable def fX12_greatest_b30 (N : Nat) (r4 : Nat → Int32 → Int32 → gS → Option (Int32 × gS)) (k1 : Nat) (x2 : Int32) (x3 : Int32) (S : gS) : Option (Int32 × gS) := r4 k1 x2 ((x3 + 1 : Int32)) S
theorem bX12_greatest_30 {N : Nat} {r4 : Nat → Int32 → Int32 → gS → Option (Int32 × gS)} {k1 : Nat} {x2 : Int32} {x3 : Int32} {S : gS} {H : Heap} {locs : List Loc} {ls : Array Slot} {o : Int32 × gS} (C : gC p s m args meth c cX12_greatest 4 RX12 ((some .int)) D (mtys cI cS) mord g Am) (O : gO (mcell g cI cS sa) mord g) (K4 : ∀ (k1 : Nat) (x2 : Int32) (x3 : Int32) (hk_k1 : mI k1 = true) (S : gS) (H : Heap) (locs : List Loc) (ls : Array Slot), gX D (mcell g cI cS sa) mord g S s H locs → lv_has ls 4 [(0, .ref (g 99)), (1, .ref (g k1)), (2, .int x2), (3, .int x3)] → r4 k1 x2 x3 S = some o → W p l e (rmd 0) s m args below meth c H locs 0 0 (gE below args s D (mtys cI cS) (mcell g cI cS sa) mord g (some (.int o.1)) o.2) (F0 m 4 ls [])) (hk_k1 : mI k1 = true) (X : gX D (mcell g cI cS sa) mord g S s H locs) (hl : lv_has ls 4 [(0, .ref (g 99)), (1, .ref (g k1)), (2, .int x2), (3, .int x3)]) (hF : fX12_greatest_b30 N r4 k1 x2 x3 S = some o) : W p l e (rmd 0) s m args below meth c H locs 0 0 (gE below args s D (mtys cI cS) (mcell g cI cS sa) mord g (some (.int o.1)) o.2) (F0 m 30 ls []) := by
  unfold fX12_greatest_b30 at hF
  refine lv_iinc (v := (x3 + 1 : Int32)) (lv' := [(3, .int ((x3 + 1 : Int32))), (0, .ref (g 99)), (1, .ref (g k1)), (2, .int x2)]) C.1.1 C.1.2.1 dX12_greatest_30 hl (k := 3) rfl rfl (by decide) rfl (fun ls hl => ?_)
  refine lv_goto (tgt := 4) C.1.1 C.1.2.1 dX12_greatest_33 (by decide) ?_
  exact K4 _ _ _ hk_k1 _ _ _ _ X (lv_sub hl [1, 2, 3, 0] rfl) hF
noncomputable def fX12_greatest_b28 (N : Nat) (r4 : Nat → Int32 → Int32 → gS → Option (Int32 × gS)) (k1 : Nat) (x3 : Int32) (S : gS) : Option (Int32 × gS) := fX12_greatest_b30 N r4 k1 x3 x3 S
theorem bX12_greatest_28 {N : Nat} {r4 : Nat → Int32 → Int32 → gS → Option (Int32 × gS)} {k1 : Nat} {x3 : Int32} {S : gS} {H : Heap} {locs : List Loc} {ls : Array Slot} {o : Int32 × gS} (C : gC p s m args meth c cX12_greatest 4 RX12 ((some .int)) D (mtys cI cS) mord g Am) (O : gO (mcell g cI cS sa) mord g) (K4 : ∀ (k1 : Nat) (x2 : Int32) (x3 : Int32) (hk_k1 : mI k1 = true) (S : gS) (H : Heap) (locs : List Loc) (ls : Array Slot), gX D (mcell g cI cS sa) mord g S s H locs → lv_has ls 4 [(0, .ref (g 99)), (1, .ref (g k1)), (2, .int x2), (3, .int x3)] → r4 k1 x2 x3 S = some o → W p l e (rmd 0) s m args below meth c H locs 0 0 (gE below args s D (mtys cI cS) (mcell g cI cS sa) mord g (some (.int o.1)) o.2) (F0 m 4 ls [])) (hk_k1 : mI k1 = true) (X : gX D (mcell g cI cS sa) mord g S s H locs) (hl : lv_has ls 4 [(0, .ref (g 99)), (1, .ref (g k1)), (3, .int x3)]) (hF : fX12_greatest_b28 N r4 k1 x3 S = some o) : W p l e (rmd 0) s m args below meth c H locs 0 0 (gE below args s D (mtys cI cS) (mcell g cI cS sa) mord g (some (.int o.1)) o.2) (F0 m 28 ls []) := by
  unfold fX12_greatest_b28 at hF
  refine lv_iload_n C.1.1 C.1.2.1 dX12_greatest_28 rfl (lv_at hl 2 rfl) ?_
  refine lv_istore_n (lv' := [(2, .int x3), (0, .ref (g 99)), (1, .ref (g k1)), (3, .int x3)]) C.1.1 C.1.2.1 dX12_greatest_29 rfl hl (by decide) rfl (fun ls hl => ?_)
  exact bX12_greatest_30 C O K4 hk_k1 X (lv_sub hl [1, 2, 0, 3] rfl) hF
noncomputable def fX12_greatest_b19 (N : Nat) (r4 : Nat → Int32 → Int32 → gS → Option (Int32 × gS)) (k1 : Nat) (x2 : Int32) (x3 : Int32) (S : gS) : Option (Int32 × gS) := chk (inb x3 (mN k1)) (chk (inb x2 (mN k1)) (if (S k1 (Int32.toNatClampNeg x3)) ≤ (S k1 (Int32.toNatClampNeg x2)) then fX12_greatest_b30 N r4 k1 x2 x3 S else fX12_greatest_b28 N r4 k1 x3 S))
theorem bX12_greatest_19 {N : Nat} {r4 : Nat → Int32 → Int32 → gS → Option (Int32 × gS)} {k1 : Nat} {x2 : Int32} {x3 : Int32} {S : gS} {H : Heap} {locs : List Loc} {ls : Array Slot} {o : Int32 × gS} (C : gC p s m args meth c cX12_greatest 4 RX12 ((some .int)) D (mtys cI cS) mord g Am) (O : gO (mcell g cI cS sa) mord g) (K4 : ∀ (k1 : Nat) (x2 : Int32) (x3 : Int32) (hk_k1 : mI k1 = true) (S : gS) (H : Heap) (locs : List Loc) (ls : Array Slot), gX D (mcell g cI cS sa) mord g S s H locs → lv_has ls 4 [(0, .ref (g 99)), (1, .ref (g k1)), (2, .int x2), (3, .int x3)] → r4 k1 x2 x3 S = some o → W p l e (rmd 0) s m args below meth c H locs 0 0 (gE below args s D (mtys cI cS) (mcell g cI cS sa) mord g (some (.int o.1)) o.2) (F0 m 4 ls [])) (hk_k1 : mI k1 = true) (X : gX D (mcell g cI cS sa) mord g S s H locs) (hl : lv_has ls 4 [(0, .ref (g 99)), (1, .ref (g k1)), (2, .int x2), (3, .int x3)]) (hF : fX12_greatest_b19 N r4 k1 x2 x3 S = some o) : W p l e (rmd 0) s m args below meth c H locs 0 0 (gE below args s D (mtys cI cS) (mcell g cI cS sa) mord g (some (.int o.1)) o.2) (F0 m 19 ls []) := by
  unfold fX12_greatest_b19 at hF
  refine lv_aload_n C.1.1 C.1.2.1 dX12_greatest_19 rfl (lv_at hl 1 rfl) ?_
  refine lv_iload_n C.1.1 C.1.2.1 dX12_greatest_20 rfl (lv_at hl 3 rfl) ?_
  obtain ⟨h_1, hF⟩ := chk_some hF
  refine m_rv C X (k := k1) hk_k1  (inb_vp h_1) rfl dX12_greatest_21 ?_
  refine lv_aload_n C.1.1 C.1.2.1 dX12_greatest_22 rfl (lv_at hl 1 rfl) ?_
  refine lv_iload_n C.1.1 C.1.2.1 dX12_greatest_23 rfl (lv_at hl 2 rfl) ?_
  obtain ⟨h_2, hF⟩ := chk_some hF
  refine m_rv C X (k := k1) hk_k1  (inb_vp h_2) rfl dX12_greatest_24 ?_
  refine lv_icmp_le (tgt := 30) C.1.1 C.1.2.1 dX12_greatest_25 (by decide) (fun h_z => ?_) (fun h_z => ?_)
  · rw [if_pos h_z] at hF
    exact bX12_greatest_30 C O K4 hk_k1 X (lv_sub hl [0, 1, 2, 3] rfl) hF
  · rw [if_neg h_z] at hF
    exact bX12_greatest_28 C O K4 hk_k1 X (lv_sub hl [0, 1, 3] rfl) hF
noncomputable def fX12_greatest_b14 (N : Nat) (r4 : Nat → Int32 → Int32 → gS → Option (Int32 × gS)) (k1 : Nat) (x2 : Int32) (x3 : Int32) (S : gS) : Option (Int32 × gS) := if x2 = ((-1)) then fX12_greatest_b28 N r4 k1 x3 S else fX12_greatest_b19 N r4 k1 x2 x3 S
theorem bX12_greatest_14 {N : Nat} {r4 : Nat → Int32 → Int32 → gS → Option (Int32 × gS)} {k1 : Nat} {x2 : Int32} {x3 : Int32} {S : gS} {H : Heap} {locs : List Loc} {ls : Array Slot} {o : Int32 × gS} (C : gC p s m args meth c cX12_greatest 4 RX12 ((some .int)) D (mtys cI cS) mord g Am) (O : gO (mcell g cI cS sa) mord g) (K4 : ∀ (k1 : Nat) (x2 : Int32) (x3 : Int32) (hk_k1 : mI k1 = true) (S : gS) (H : Heap) (locs : List Loc) (ls : Array Slot), gX D (mcell g cI cS sa) mord g S s H locs → lv_has ls 4 [(0, .ref (g 99)), (1, .ref (g k1)), (2, .int x2), (3, .int x3)] → r4 k1 x2 x3 S = some o → W p l e (rmd 0) s m args below meth c H locs 0 0 (gE below args s D (mtys cI cS) (mcell g cI cS sa) mord g (some (.int o.1)) o.2) (F0 m 4 ls [])) (hk_k1 : mI k1 = true) (X : gX D (mcell g cI cS sa) mord g S s H locs) (hl : lv_has ls 4 [(0, .ref (g 99)), (1, .ref (g k1)), (2, .int x2), (3, .int x3)]) (hF : fX12_greatest_b14 N r4 k1 x2 x3 S = some o) : W p l e (rmd 0) s m args below meth c H locs 0 0 (gE below args s D (mtys cI cS) (mcell g cI cS sa) mord g (some (.int o.1)) o.2) (F0 m 14 ls []) := by
  unfold fX12_greatest_b14 at hF
  refine lv_iload_n C.1.1 C.1.2.1 dX12_greatest_14 rfl (lv_at hl 2 rfl) ?_
  refine lv_iconst (v := (-1)) C.1.1 C.1.2.1 dX12_greatest_15 (by decide) ?_
  refine lv_icmp_eq (tgt := 28) C.1.1 C.1.2.1 dX12_greatest_16 (by decide) (fun h_z => ?_) (fun h_z => ?_)
  · rw [if_pos h_z] at hF
    exact bX12_greatest_28 C O K4 hk_k1 X (lv_sub hl [0, 1, 3] rfl) hF
  · rw [if_neg h_z] at hF
    exact bX12_greatest_19 C O K4 hk_k1 X (lv_sub hl [0, 1, 2, 3] rfl) hF
noncomputable def fX12_greatest_b4 (N : Nat) (r4 : Nat → Int32 → Int32 → gS → Option (Int32 × gS)) (k1 : Nat) (x2 : Int32) (x3 : Int32) (S : gS) : Option (Int32 × gS) := if (S 5 1) ≤ x3 then fX12_greatest_b36 N x2 S else fX12_greatest_b14 N r4 k1 x2 x3 S
theorem bX12_greatest_4 {N : Nat} {r4 : Nat → Int32 → Int32 → gS → Option (Int32 × gS)} {k1 : Nat} {x2 : Int32} {x3 : Int32} {S : gS} {H : Heap} {locs : List Loc} {ls : Array Slot} {o : Int32 × gS} (C : gC p s m args meth c cX12_greatest 4 RX12 ((some .int)) D (mtys cI cS) mord g Am) (O : gO (mcell g cI cS sa) mord g) (K4 : ∀ (k1 : Nat) (x2 : Int32) (x3 : Int32) (hk_k1 : mI k1 = true) (S : gS) (H : Heap) (locs : List Loc) (ls : Array Slot), gX D (mcell g cI cS sa) mord g S s H locs → lv_has ls 4 [(0, .ref (g 99)), (1, .ref (g k1)), (2, .int x2), (3, .int x3)] → r4 k1 x2 x3 S = some o → W p l e (rmd 0) s m args below meth c H locs 0 0 (gE below args s D (mtys cI cS) (mcell g cI cS sa) mord g (some (.int o.1)) o.2) (F0 m 4 ls [])) (hk_k1 : mI k1 = true) (X : gX D (mcell g cI cS sa) mord g S s H locs) (hl : lv_has ls 4 [(0, .ref (g 99)), (1, .ref (g k1)), (2, .int x2), (3, .int x3)]) (hF : fX12_greatest_b4 N r4 k1 x2 x3 S = some o) : W p l e (rmd 0) s m args below meth c H locs 0 0 (gE below args s D (mtys cI cS) (mcell g cI cS sa) mord g (some (.int o.1)) o.2) (F0 m 4 ls []) := by
  unfold fX12_greatest_b4 at hF
  refine lv_iload_n C.1.1 C.1.2.1 dX12_greatest_4 rfl (lv_at hl 3 rfl) ?_
  refine lv_aload_n C.1.1 C.1.2.1 dX12_greatest_5 rfl (lv_at hl 0 rfl) ?_
  refine m_g5 C X dX12_greatest_6 ?_
  refine lv_iconst (v := 1) C.1.1 C.1.2.1 dX12_greatest_9 (by decide) ?_
  refine m_r5 C X (j := 1) (inb_vp (by decide)) (by decide) dX12_greatest_10 ?_
  refine lv_icmp_ge (tgt := 36) C.1.1 C.1.2.1 dX12_greatest_11 (by decide) (fun h_z => ?_) (fun h_z => ?_)
  · rw [if_pos h_z] at hF
    exact bX12_greatest_36 C O X (lv_sub hl [2] rfl) hF
  · rw [if_neg h_z] at hF
    exact bX12_greatest_14 C O K4 hk_k1 X (lv_sub hl [0, 1, 2, 3] rfl) hF
noncomputable def fX12_greatest_h4 (N : Nat) : Nat → Nat → Int32 → Int32 → gS → Option (Int32 × gS)
  | 0, _, _, _, _ => none
  | n + 1, k1, x2, x3, S => fX12_greatest_b4 N (fX12_greatest_h4 N n) k1 x2 x3 S
theorem hX12_greatest_4 {N : Nat} {o : Int32 × gS} (C : gC p s m args meth c cX12_greatest 4 RX12 ((some .int)) D (mtys cI cS) mord g Am) (O : gO (mcell g cI cS sa) mord g) : ∀ (n : Nat) (k1 : Nat) (x2 : Int32) (x3 : Int32) (hk_k1 : mI k1 = true) (S : gS) (H : Heap) (locs : List Loc) (ls : Array Slot), gX D (mcell g cI cS sa) mord g S s H locs → lv_has ls 4 [(0, .ref (g 99)), (1, .ref (g k1)), (2, .int x2), (3, .int x3)] → fX12_greatest_h4 N n k1 x2 x3 S = some o → W p l e (rmd 0) s m args below meth c H locs 0 0 (gE below args s D (mtys cI cS) (mcell g cI cS sa) mord g (some (.int o.1)) o.2) (F0 m 4 ls []) := by
  intro n
  induction n with
  | zero =>
    intro k1 x2 x3 hk_k1 S H locs ls X hl hF
    exact absurd (show (none : Option (Int32 × gS)) = some o from hF) (by simp)
  | succ n ih =>
    intro k1 x2 x3 hk_k1 S H locs ls X hl hF
    have hF : fX12_greatest_b4 N (fX12_greatest_h4 N n) k1 x2 x3 S = some o := hF
    exact bX12_greatest_4 C O ih hk_k1 X hl hF
noncomputable def fX12_greatest_b0 (N : Nat) (k1 : Nat) (S : gS) : Option (Int32 × gS) := fX12_greatest_h4 N N k1 ((-1)) 0 S
theorem bX12_greatest_0 {N : Nat} {k1 : Nat} {S : gS} {H : Heap} {locs : List Loc} {ls : Array Slot} {o : Int32 × gS} (C : gC p s m args meth c cX12_greatest 4 RX12 ((some .int)) D (mtys cI cS) mord g Am) (O : gO (mcell g cI cS sa) mord g) (hk_k1 : mI k1 = true) (X : gX D (mcell g cI cS sa) mord g S s H locs) (hl : lv_has ls 4 [(0, .ref (g 99)), (1, .ref (g k1))]) (hF : fX12_greatest_b0 N k1 S = some o) : W p l e (rmd 0) s m args below meth c H locs 0 0 (gE below args s D (mtys cI cS) (mcell g cI cS sa) mord g (some (.int o.1)) o.2) (F0 m 0 ls []) := by
  unfold fX12_greatest_b0 at hF
  refine lv_iconst (v := (-1)) C.1.1 C.1.2.1 dX12_greatest_0 (by decide) ?_
  refine lv_istore_n (lv' := [(2, .int ((-1))), (0, .ref (g 99)), (1, .ref (g k1))]) C.1.1 C.1.2.1 dX12_greatest_1 rfl hl (by decide) rfl (fun ls hl => ?_)
  refine lv_iconst (v := 0) C.1.1 C.1.2.1 dX12_greatest_2 (by decide) ?_
  refine lv_istore_n (lv' := [(3, .int 0), (2, .int ((-1))), (0, .ref (g 99)), (1, .ref (g k1))]) C.1.1 C.1.2.1 dX12_greatest_3 rfl hl (by decide) rfl (fun ls hl => ?_)
  exact hX12_greatest_4 C O N _ _ _ hk_k1 _ _ _ _ X (lv_sub hl [2, 3, 1, 0] rfl) hF
noncomputable def fX12_greatest (N : Nat) (k1 : Nat) (S : gS) : Option (Int32 × gS) := fX12_greatest_b0 N k1 S
theorem kX12_greatest {l : Launch} {D : va_G} {g : Nat → Nat} {cI cS : ClassId} {sa : Nat → Nat → Option Nat} {Am : (Nat → Prop) → State → Heap → Prop} (O : gO (mcell g cI cS sa) mord g) (P : gAm Am) (N : Nat) (k1 : Nat) (hk_k1 : mI k1 = true) (S : gS) (o : Int32 × gS) (hF : fX12_greatest N k1 S = some o) : gM l yX12_greatest cX12_greatest 4 ((some .int)) 0 D (mtys cI cS) (mcell g cI cS sa) mord g Am [.ref (g 99), .ref (g k1)] S (some (.int o.1)) o.2 :=
  gM_of O P (by decide) (Nat.le_of_ble_eq_true rfl) (fun p e s m args below meth c ls C X hl => bX12_greatest_0 C O hk_k1 X (lv_sub hl [0, 1] rfl) hF)
-- most
noncomputable def fX12_most_b68 (N : Nat) (u1 : Nat) (S : gS) : Option (Int32 × gS) := bnd (fX12_greatest N u1 S) fun q1 => (bnd (fX12_unpack N 46 0 q1.2) fun q2 => (some (q1.1, q2.2)))
theorem bX12_most_68 {N : Nat} {u1 : Nat} {S : gS} {H : Heap} {locs : List Loc} {ls : Array Slot} {o : Int32 × gS} (C : gC p s m args meth c cX12_most 4 RX12 ((some .int)) D (mtys cI cS) mord g Am) (O : gO (mcell g cI cS sa) mord g) (hk_u1 : mI u1 = true) (X : gX D (mcell g cI cS sa) mord g S s H locs) (hl : lv_has ls 4 [(0, .ref (g 99))]) (hF : fX12_most_b68 N u1 S = some o) : W p l e (rmd 7) s m args below meth c H locs 0 0 (gE below args s D (mtys cI cS) (mcell g cI cS sa) mord g (some (.int o.1)) o.2) (F0 m 68 ls [.ref (g u1), .ref (g 99)]) := by
  unfold fX12_most_b68 at hF
  obtain ⟨q1, hq1, hF⟩ := bnd_some hF
  refine m_callVi C X vX12_greatest rfl (kX12_greatest O C.2.2.2.2.1 N u1 hk_u1 S q1 hq1) (Nat.le_of_ble_eq_true rfl) (Nat.le_of_ble_eq_true rfl) (Nat.le_of_ble_eq_true rfl) (Nat.le_of_ble_eq_true rfl) rfl hl.1 rfl (Nat.le_of_ble_eq_true rfl) dX12_most_68 (fun H locs X => ?_)
  refine lv_istore_n (lv' := [(3, .int q1.1), (0, .ref (g 99))]) C.1.1 C.1.2.1 dX12_most_71 rfl hl (by decide) rfl (fun ls hl => ?_)
  refine lv_aload_n C.1.1 C.1.2.1 dX12_most_72 rfl (lv_at hl 1 rfl) ?_
  refine lv_aload_n C.1.1 C.1.2.1 dX12_most_73 rfl (lv_at hl 1 rfl) ?_
  refine m_g46 C X dX12_most_74 ?_
  refine lv_iconst (v := 0) C.1.1 C.1.2.1 dX12_most_77 (by decide) ?_
  obtain ⟨q2, hq2, hF⟩ := bnd_some hF
  refine m_callV C X vX12_unpack rfl (kX12_unpack O C.2.2.2.2.1 N 46 0 (rfl : mI 46 = true) q1.2 q2 hq2) (Nat.le_of_ble_eq_true rfl) (Nat.le_of_ble_eq_true rfl) (Nat.le_of_ble_eq_true rfl) (Nat.le_of_ble_eq_true rfl) rfl hl.1 rfl (Nat.le_of_ble_eq_true rfl) dX12_most_78 (fun H locs X => ?_)
  refine lv_iload_n C.1.1 C.1.2.1 dX12_most_81 rfl (lv_at hl 0 rfl) ?_
  cases hF
  exact g_iret C X dX12_most_82
noncomputable def fX12_most_b64 (N : Nat) (S : gS) : Option (Int32 × gS) := fX12_most_b68 N 32 S
theorem bX12_most_64 {N : Nat} {S : gS} {H : Heap} {locs : List Loc} {ls : Array Slot} {o : Int32 × gS} (C : gC p s m args meth c cX12_most 4 RX12 ((some .int)) D (mtys cI cS) mord g Am) (O : gO (mcell g cI cS sa) mord g) (X : gX D (mcell g cI cS sa) mord g S s H locs) (hl : lv_has ls 4 [(0, .ref (g 99))]) (hF : fX12_most_b64 N S = some o) : W p l e (rmd 7) s m args below meth c H locs 0 0 (gE below args s D (mtys cI cS) (mcell g cI cS sa) mord g (some (.int o.1)) o.2) (F0 m 64 ls [.ref (g 99)]) := by
  unfold fX12_most_b64 at hF
  refine lv_aload_n C.1.1 C.1.2.1 dX12_most_64 rfl (lv_at hl 0 rfl) ?_
  refine m_g32 C X dX12_most_65 ?_
  exact bX12_most_68 C O (rfl : mI 32 = true) X (lv_sub hl [0] rfl) hF
noncomputable def fX12_most_b57 (N : Nat) (S : gS) : Option (Int32 × gS) := fX12_most_b68 N 33 S
theorem bX12_most_57 {N : Nat} {S : gS} {H : Heap} {locs : List Loc} {ls : Array Slot} {o : Int32 × gS} (C : gC p s m args meth c cX12_most 4 RX12 ((some .int)) D (mtys cI cS) mord g Am) (O : gO (mcell g cI cS sa) mord g) (X : gX D (mcell g cI cS sa) mord g S s H locs) (hl : lv_has ls 4 [(0, .ref (g 99))]) (hF : fX12_most_b57 N S = some o) : W p l e (rmd 7) s m args below meth c H locs 0 0 (gE below args s D (mtys cI cS) (mcell g cI cS sa) mord g (some (.int o.1)) o.2) (F0 m 57 ls [.ref (g 99)]) := by
  unfold fX12_most_b57 at hF
  refine lv_aload_n C.1.1 C.1.2.1 dX12_most_57 rfl (lv_at hl 0 rfl) ?_
  refine m_g33 C X dX12_most_58 ?_
  refine lv_goto (tgt := 68) C.1.1 C.1.2.1 dX12_most_61 (by decide) ?_
  exact bX12_most_68 C O (rfl : mI 33 = true) X (lv_sub hl [0] rfl) hF
noncomputable def fX12_most_b38 (N : Nat) (x1 : Int32) (x2 : Int32) (S : gS) : Option (Int32 × gS) := bnd (fX12_pack N 46 0 S) fun q1 => (bnd (fX12_goOn N x1 q1.2) fun q2 => (if x2 = 0 then fX12_most_b57 N q2.2 else fX12_most_b64 N q2.2))
theorem bX12_most_38 {N : Nat} {x1 : Int32} {x2 : Int32} {S : gS} {H : Heap} {locs : List Loc} {ls : Array Slot} {o : Int32 × gS} (C : gC p s m args meth c cX12_most 4 RX12 ((some .int)) D (mtys cI cS) mord g Am) (O : gO (mcell g cI cS sa) mord g) (X : gX D (mcell g cI cS sa) mord g S s H locs) (hl : lv_has ls 4 [(0, .ref (g 99)), (1, .int x1), (2, .int x2)]) (hF : fX12_most_b38 N x1 x2 S = some o) : W p l e (rmd 7) s m args below meth c H locs 0 0 (gE below args s D (mtys cI cS) (mcell g cI cS sa) mord g (some (.int o.1)) o.2) (F0 m 38 ls []) := by
  unfold fX12_most_b38 at hF
  refine lv_aload_n C.1.1 C.1.2.1 dX12_most_38 rfl (lv_at hl 0 rfl) ?_
  refine lv_aload_n C.1.1 C.1.2.1 dX12_most_39 rfl (lv_at hl 0 rfl) ?_
  refine m_g46 C X dX12_most_40 ?_
  refine lv_iconst (v := 0) C.1.1 C.1.2.1 dX12_most_43 (by decide) ?_
  obtain ⟨q1, hq1, hF⟩ := bnd_some hF
  refine m_callV C X vX12_pack rfl (kX12_pack O C.2.2.2.2.1 N 46 0 (rfl : mI 46 = true) S q1 hq1) (Nat.le_of_ble_eq_true rfl) (Nat.le_of_ble_eq_true rfl) (Nat.le_of_ble_eq_true rfl) (Nat.le_of_ble_eq_true rfl) rfl hl.1 rfl (Nat.le_of_ble_eq_true rfl) dX12_most_44 (fun H locs X => ?_)
  refine lv_aload_n C.1.1 C.1.2.1 dX12_most_47 rfl (lv_at hl 0 rfl) ?_
  refine lv_iload_n C.1.1 C.1.2.1 dX12_most_48 rfl (lv_at hl 1 rfl) ?_
  obtain ⟨q2, hq2, hF⟩ := bnd_some hF
  refine m_callV C X vX12_goOn rfl (kX12_goOn O C.2.2.2.2.1 N x1  q1.2 q2 hq2) (Nat.le_of_ble_eq_true rfl) (Nat.le_of_ble_eq_true rfl) (Nat.le_of_ble_eq_true rfl) (Nat.le_of_ble_eq_true rfl) rfl hl.1 rfl (Nat.le_of_ble_eq_true rfl) dX12_most_49 (fun H locs X => ?_)
  refine lv_aload_n C.1.1 C.1.2.1 dX12_most_52 rfl (lv_at hl 0 rfl) ?_
  refine lv_iload_n C.1.1 C.1.2.1 dX12_most_53 rfl (lv_at hl 2 rfl) ?_
  refine lv_if_ne (tgt := 64) C.1.1 C.1.2.1 dX12_most_54 (by decide) (fun h_z => ?_) (fun h_z => ?_)
  · rw [if_neg h_z] at hF
    exact bX12_most_64 C O X (lv_sub hl [0] rfl) hF
  · rw [if_pos h_z] at hF
    exact bX12_most_57 C O X (lv_sub hl [0] rfl) hF
noncomputable def fX12_most_b32 (N : Nat) (S : gS) : Option (Int32 × gS) := bnd (fX12_fail N 2 S) fun q1 => (some (q1.1, q1.2))
theorem bX12_most_32 {N : Nat} {S : gS} {H : Heap} {locs : List Loc} {ls : Array Slot} {o : Int32 × gS} (C : gC p s m args meth c cX12_most 4 RX12 ((some .int)) D (mtys cI cS) mord g Am) (O : gO (mcell g cI cS sa) mord g) (X : gX D (mcell g cI cS sa) mord g S s H locs) (hl : lv_has ls 4 [(0, .ref (g 99))]) (hF : fX12_most_b32 N S = some o) : W p l e (rmd 7) s m args below meth c H locs 0 0 (gE below args s D (mtys cI cS) (mcell g cI cS sa) mord g (some (.int o.1)) o.2) (F0 m 32 ls []) := by
  unfold fX12_most_b32 at hF
  refine lv_aload_n C.1.1 C.1.2.1 dX12_most_32 rfl (lv_at hl 0 rfl) ?_
  refine lv_iconst (v := 2) C.1.1 C.1.2.1 dX12_most_33 (by decide) ?_
  obtain ⟨q1, hq1, hF⟩ := bnd_some hF
  refine m_callVi C X vX12_fail rfl (kX12_fail O C.2.2.2.2.1 N 2  S q1 hq1) (Nat.le_of_ble_eq_true rfl) (Nat.le_of_ble_eq_true rfl) (Nat.le_of_ble_eq_true rfl) (Nat.le_of_ble_eq_true rfl) rfl hl.1 rfl (Nat.le_of_ble_eq_true rfl) dX12_most_34 (fun H locs X => ?_)
  cases hF
  exact g_iret C X dX12_most_37
noncomputable def fX12_most_b20 (N : Nat) (x1 : Int32) (x2 : Int32) (S : gS) : Option (Int32 × gS) := bnd (fX12_isIn N (Int32.toInt64 x1) 0 60 S) fun q1 => (if q1.1 = 0 then fX12_most_b32 N q1.2 else fX12_most_b38 N x1 x2 q1.2)
theorem bX12_most_20 {N : Nat} {x1 : Int32} {x2 : Int32} {S : gS} {H : Heap} {locs : List Loc} {ls : Array Slot} {o : Int32 × gS} (C : gC p s m args meth c cX12_most 4 RX12 ((some .int)) D (mtys cI cS) mord g Am) (O : gO (mcell g cI cS sa) mord g) (X : gX D (mcell g cI cS sa) mord g S s H locs) (hl : lv_has ls 4 [(0, .ref (g 99)), (1, .int x1), (2, .int x2)]) (hF : fX12_most_b20 N x1 x2 S = some o) : W p l e (rmd 7) s m args below meth c H locs 0 0 (gE below args s D (mtys cI cS) (mcell g cI cS sa) mord g (some (.int o.1)) o.2) (F0 m 20 ls []) := by
  unfold fX12_most_b20 at hF
  refine lv_iload_n C.1.1 C.1.2.1 dX12_most_20 rfl (lv_at hl 1 rfl) ?_
  refine lv_i2l (v := Int32.toInt64 x1) C.1.1 C.1.2.1 dX12_most_21 rfl ?_
  refine lv_lconst (v := 0) C.1.1 C.1.2.1 dX12_most_22 (by decide) ?_
  refine lv_ldc2 C.1.1 C.1.2.1 C.1.2.2.2.1 (C.1.2.2.2.2 _ mKL432) dX12_most_23 ?_
  obtain ⟨q1, hq1, hF⟩ := bnd_some hF
  refine g_callSi C X vX12_isIn (kX12_isIn O C.2.2.2.2.1 N (Int32.toInt64 x1) 0 60  S q1 hq1) (Nat.le_of_ble_eq_true rfl) (Nat.le_of_ble_eq_true rfl) (Nat.le_of_ble_eq_true rfl) (Nat.le_of_ble_eq_true rfl) rfl hl.1 rfl (Nat.le_of_ble_eq_true rfl) dX12_most_26 (fun H locs X => ?_)
  refine lv_if_ne (tgt := 38) C.1.1 C.1.2.1 dX12_most_29 (by decide) (fun h_z => ?_) (fun h_z => ?_)
  · rw [if_neg h_z] at hF
    exact bX12_most_38 C O X (lv_sub hl [0, 1, 2] rfl) hF
  · rw [if_pos h_z] at hF
    exact bX12_most_32 C O X (lv_sub hl [0] rfl) hF
noncomputable def fX12_most_b14 (N : Nat) (S : gS) : Option (Int32 × gS) := bnd (fX12_fail N 1 S) fun q1 => (some (q1.1, q1.2))
theorem bX12_most_14 {N : Nat} {S : gS} {H : Heap} {locs : List Loc} {ls : Array Slot} {o : Int32 × gS} (C : gC p s m args meth c cX12_most 4 RX12 ((some .int)) D (mtys cI cS) mord g Am) (O : gO (mcell g cI cS sa) mord g) (X : gX D (mcell g cI cS sa) mord g S s H locs) (hl : lv_has ls 4 [(0, .ref (g 99))]) (hF : fX12_most_b14 N S = some o) : W p l e (rmd 7) s m args below meth c H locs 0 0 (gE below args s D (mtys cI cS) (mcell g cI cS sa) mord g (some (.int o.1)) o.2) (F0 m 14 ls []) := by
  unfold fX12_most_b14 at hF
  refine lv_aload_n C.1.1 C.1.2.1 dX12_most_14 rfl (lv_at hl 0 rfl) ?_
  refine lv_iconst (v := 1) C.1.1 C.1.2.1 dX12_most_15 (by decide) ?_
  obtain ⟨q1, hq1, hF⟩ := bnd_some hF
  refine m_callVi C X vX12_fail rfl (kX12_fail O C.2.2.2.2.1 N 1  S q1 hq1) (Nat.le_of_ble_eq_true rfl) (Nat.le_of_ble_eq_true rfl) (Nat.le_of_ble_eq_true rfl) (Nat.le_of_ble_eq_true rfl) rfl hl.1 rfl (Nat.le_of_ble_eq_true rfl) dX12_most_16 (fun H locs X => ?_)
  cases hF
  exact g_iret C X dX12_most_19
noncomputable def fX12_most_b9 (N : Nat) (x1 : Int32) (x2 : Int32) (S : gS) : Option (Int32 × gS) := if x2 ≤ 1 then fX12_most_b20 N x1 x2 S else fX12_most_b14 N S
theorem bX12_most_9 {N : Nat} {x1 : Int32} {x2 : Int32} {S : gS} {H : Heap} {locs : List Loc} {ls : Array Slot} {o : Int32 × gS} (C : gC p s m args meth c cX12_most 4 RX12 ((some .int)) D (mtys cI cS) mord g Am) (O : gO (mcell g cI cS sa) mord g) (X : gX D (mcell g cI cS sa) mord g S s H locs) (hl : lv_has ls 4 [(0, .ref (g 99)), (1, .int x1), (2, .int x2)]) (hF : fX12_most_b9 N x1 x2 S = some o) : W p l e (rmd 7) s m args below meth c H locs 0 0 (gE below args s D (mtys cI cS) (mcell g cI cS sa) mord g (some (.int o.1)) o.2) (F0 m 9 ls []) := by
  unfold fX12_most_b9 at hF
  refine lv_iload_n C.1.1 C.1.2.1 dX12_most_9 rfl (lv_at hl 2 rfl) ?_
  refine lv_iconst (v := 1) C.1.1 C.1.2.1 dX12_most_10 (by decide) ?_
  refine lv_icmp_le (tgt := 20) C.1.1 C.1.2.1 dX12_most_11 (by decide) (fun h_z => ?_) (fun h_z => ?_)
  · rw [if_pos h_z] at hF
    exact bX12_most_20 C O X (lv_sub hl [0, 1, 2] rfl) hF
  · rw [if_neg h_z] at hF
    exact bX12_most_14 C O X (lv_sub hl [0] rfl) hF
noncomputable def fX12_most_b0 (N : Nat) (x1 : Int32) (x2 : Int32) (S : gS) : Option (Int32 × gS) := lt (sU S 99 4 0) fun S1 => (if x2 < 0 then fX12_most_b14 N S1 else fX12_most_b9 N x1 x2 S1)
theorem bX12_most_0 {N : Nat} {x1 : Int32} {x2 : Int32} {S : gS} {H : Heap} {locs : List Loc} {ls : Array Slot} {o : Int32 × gS} (C : gC p s m args meth c cX12_most 4 RX12 ((some .int)) D (mtys cI cS) mord g Am) (O : gO (mcell g cI cS sa) mord g) (X : gX D (mcell g cI cS sa) mord g S s H locs) (hl : lv_has ls 4 [(0, .ref (g 99)), (1, .int x1), (2, .int x2)]) (hF : fX12_most_b0 N x1 x2 S = some o) : W p l e (rmd 7) s m args below meth c H locs 0 0 (gE below args s D (mtys cI cS) (mcell g cI cS sa) mord g (some (.int o.1)) o.2) (F0 m 0 ls []) := by
  unfold fX12_most_b0 at hF
  refine lv_aload_n C.1.1 C.1.2.1 dX12_most_0 rfl (lv_at hl 0 rfl) ?_
  refine lv_iconst (v := 0) C.1.1 C.1.2.1 dX12_most_1 (by decide) ?_
  obtain ⟨S1, eS1, hF⟩ := lt_some hF
  refine m_p4 C O X eS1 dX12_most_2 (fun H locs X => ?_)
  refine lv_iload_n C.1.1 C.1.2.1 dX12_most_5 rfl (lv_at hl 2 rfl) ?_
  refine lv_if_lt (tgt := 14) C.1.1 C.1.2.1 dX12_most_6 (by decide) (fun h_z => ?_) (fun h_z => ?_)
  · rw [if_pos h_z] at hF
    exact bX12_most_14 C O X (lv_sub hl [0] rfl) hF
  · rw [if_neg h_z] at hF
    exact bX12_most_9 C O X (lv_sub hl [0, 1, 2] rfl) hF
noncomputable def fX12_most (N : Nat) (x1 : Int32) (x2 : Int32) (S : gS) : Option (Int32 × gS) := fX12_most_b0 N x1 x2 S
theorem kX12_most {l : Launch} {D : va_G} {g : Nat → Nat} {cI cS : ClassId} {sa : Nat → Nat → Option Nat} {Am : (Nat → Prop) → State → Heap → Prop} (O : gO (mcell g cI cS sa) mord g) (P : gAm Am) (N : Nat) (x1 : Int32) (x2 : Int32) (S : gS) (o : Int32 × gS) (hF : fX12_most N x1 x2 S = some o) : gM l yX12_most cX12_most 4 ((some .int)) 7 D (mtys cI cS) (mcell g cI cS sa) mord g Am [.ref (g 99), .int x1, .int x2] S (some (.int o.1)) o.2 :=
  gM_of O P (by decide) (Nat.le_of_ble_eq_true rfl) (fun p e s m args below meth c ls C X hl => bX12_most_0 C O X (lv_sub hl [0, 1, 2] rfl) hF)
end
end

/-! part 08.m05 -/
section
/-! the reference's methods as maps of states, and their walks (printed by wip/whole/mkm.py) -/
section
variable {p : Program} {l : Launch} {e : Env} {s : State} {m : MethodId} {args : Array Value} {below : List Frame} {meth : Method} {c : Code} {D : va_G} {g : Nat → Nat} {cI cS : ClassId} {sa : Nat → Nat → Option Nat} {Am : (Nat → Prop) → State → Heap → Prop}
-- hush
noncomputable def fX12_hush_b82 (N : Nat) (x3 : Int32) (S : gS) : Option (Int32 × gS) := bnd (fX12_unpack N 46 0 S) fun q1 => (some (x3, q1.2))
theorem bX12_hush_82 {N : Nat} {x3 : Int32} {S : gS} {H : Heap} {locs : List Loc} {ls : Array Slot} {o : Int32 × gS} (C : gC p s m args meth c cX12_hush 5 RX12 ((some .int)) D (mtys cI cS) mord g Am) (O : gO (mcell g cI cS sa) mord g) (X : gX D (mcell g cI cS sa) mord g S s H locs) (hl : lv_has ls 5 [(0, .ref (g 99)), (3, .int x3)]) (hF : fX12_hush_b82 N x3 S = some o) : W p l e (rmd 2) s m args below meth c H locs 0 0 (gE below args s D (mtys cI cS) (mcell g cI cS sa) mord g (some (.int o.1)) o.2) (F0 m 82 ls []) := by
  unfold fX12_hush_b82 at hF
  refine lv_aload_n C.1.1 C.1.2.1 dX12_hush_82 rfl (lv_at hl 0 rfl) ?_
  refine lv_aload_n C.1.1 C.1.2.1 dX12_hush_83 rfl (lv_at hl 0 rfl) ?_
  refine m_g46 C X dX12_hush_84 ?_
  refine lv_iconst (v := 0) C.1.1 C.1.2.1 dX12_hush_87 (by decide) ?_
  obtain ⟨q1, hq1, hF⟩ := bnd_some hF
  refine m_callV C X vX12_unpack rfl (kX12_unpack O C.2.2.2.2.1 N 46 0 (rfl : mI 46 = true) S q1 hq1) (Nat.le_of_ble_eq_true rfl) (Nat.le_of_ble_eq_true rfl) (Nat.le_of_ble_eq_true rfl) (Nat.le_of_ble_eq_true rfl) rfl hl.1 rfl (Nat.le_of_ble_eq_true rfl) dX12_hush_88 (fun H locs X => ?_)
  refine lv_iload_n C.1.1 C.1.2.1 dX12_hush_91 rfl (lv_at hl 1 rfl) ?_
  cases hF
  exact g_iret C X dX12_hush_92
noncomputable def fX12_hush_b59 (N : Nat) (r39 : Int32 → Int32 → Int32 → Int32 → gS → Option (Int32 × gS)) (x1 : Int32) (x3 : Int32) (x4 : Int32) (t0 : Int32) (S : gS) : Option (Int32 × gS) := lt (sU S 99 37 (((S 99 37) + 1 : Int32))) fun S1 => (r39 x1 t0 (if x3 < t0 then t0 else x3) ((x4 + 1 : Int32)) S1)
theorem bX12_hush_59 {N : Nat} {r39 : Int32 → Int32 → Int32 → Int32 → gS → Option (Int32 × gS)} {x1 : Int32} {x3 : Int32} {x4 : Int32} {t0 : Int32} {S : gS} {H : Heap} {locs : List Loc} {ls : Array Slot} {o : Int32 × gS} (C : gC p s m args meth c cX12_hush 5 RX12 ((some .int)) D (mtys cI cS) mord g Am) (O : gO (mcell g cI cS sa) mord g) (K39 : ∀ (x1 : Int32) (x2 : Int32) (x3 : Int32) (x4 : Int32) (S : gS) (H : Heap) (locs : List Loc) (ls : Array Slot), gX D (mcell g cI cS sa) mord g S s H locs → lv_has ls 5 [(0, .ref (g 99)), (1, .int x1), (2, .int x2), (3, .int x3), (4, .int x4)] → r39 x1 x2 x3 x4 S = some o → W p l e (rmd 2) s m args below meth c H locs 0 0 (gE below args s D (mtys cI cS) (mcell g cI cS sa) mord g (some (.int o.1)) o.2) (F0 m 39 ls [])) (X : gX D (mcell g cI cS sa) mord g S s H locs) (hl : lv_has ls 5 [(0, .ref (g 99)), (1, .int x1), (3, .int x3), (4, .int x4)]) (hF : fX12_hush_b59 N r39 x1 x3 x4 t0 S = some o) : W p l e (rmd 2) s m args below meth c H locs 0 0 (gE below args s D (mtys cI cS) (mcell g cI cS sa) mord g (some (.int o.1)) o.2) (F0 m 59 ls [.int t0]) := by
  unfold fX12_hush_b59 at hF
  refine lv_istore_n (lv' := [(2, .int t0), (0, .ref (g 99)), (1, .int x1), (3, .int x3), (4, .int x4)]) C.1.1 C.1.2.1 dX12_hush_59 rfl hl (by decide) rfl (fun ls hl => ?_)
  refine lv_iload_n C.1.1 C.1.2.1 dX12_hush_60 rfl (lv_at hl 3 rfl) ?_
  refine lv_iload_n C.1.1 C.1.2.1 dX12_hush_61 rfl (lv_at hl 0 rfl) ?_
  refine g_max C hl.1 mMmax354 ⟨Nat.le_of_ble_eq_true rfl, Nat.le_of_ble_eq_true rfl⟩ (Nat.le_of_ble_eq_true rfl) (Nat.le_of_ble_eq_true rfl) dX12_hush_62 ?_
  refine lv_istore_n (lv' := [(3, .int (if x3 < t0 then t0 else x3)), (2, .int t0), (0, .ref (g 99)), (1, .int x1), (4, .int x4)]) C.1.1 C.1.2.1 dX12_hush_65 rfl hl (by decide) rfl (fun ls hl => ?_)
  refine lv_aload_n C.1.1 C.1.2.1 dX12_hush_66 rfl (lv_at hl 2 rfl) ?_
  refine lv_dup C.1.1 C.1.2.1 dX12_hush_67 rfl ?_
  refine m_g37 C X dX12_hush_68 ?_
  refine lv_iconst (v := 1) C.1.1 C.1.2.1 dX12_hush_71 (by decide) ?_
  refine lv_iadd C.1.1 C.1.2.1 dX12_hush_72 ?_
  obtain ⟨S1, eS1, hF⟩ := lt_some hF
  refine m_p37 C O X eS1 dX12_hush_73 (fun H locs X => ?_)
  refine lv_iinc (v := (x4 + 1 : Int32)) (lv' := [(4, .int ((x4 + 1 : Int32))), (3, .int (if x3 < t0 then t0 else x3)), (2, .int t0), (0, .ref (g 99)), (1, .int x1)]) C.1.1 C.1.2.1 dX12_hush_76 hl (k := 4) rfl rfl (by decide) rfl (fun ls hl => ?_)
  refine lv_goto (tgt := 39) C.1.1 C.1.2.1 dX12_hush_79 (by decide) ?_
  exact K39 _ _ _ _ _ _ _ _ X (lv_sub hl [3, 4, 2, 1, 0] rfl) hF
noncomputable def fX12_hush_b58 (N : Nat) (r39 : Int32 → Int32 → Int32 → Int32 → gS → Option (Int32 × gS)) (x1 : Int32) (x3 : Int32) (x4 : Int32) (S : gS) : Option (Int32 × gS) := fX12_hush_b59 N r39 x1 x3 x4 0 S
theorem bX12_hush_58 {N : Nat} {r39 : Int32 → Int32 → Int32 → Int32 → gS → Option (Int32 × gS)} {x1 : Int32} {x3 : Int32} {x4 : Int32} {S : gS} {H : Heap} {locs : List Loc} {ls : Array Slot} {o : Int32 × gS} (C : gC p s m args meth c cX12_hush 5 RX12 ((some .int)) D (mtys cI cS) mord g Am) (O : gO (mcell g cI cS sa) mord g) (K39 : ∀ (x1 : Int32) (x2 : Int32) (x3 : Int32) (x4 : Int32) (S : gS) (H : Heap) (locs : List Loc) (ls : Array Slot), gX D (mcell g cI cS sa) mord g S s H locs → lv_has ls 5 [(0, .ref (g 99)), (1, .int x1), (2, .int x2), (3, .int x3), (4, .int x4)] → r39 x1 x2 x3 x4 S = some o → W p l e (rmd 2) s m args below meth c H locs 0 0 (gE below args s D (mtys cI cS) (mcell g cI cS sa) mord g (some (.int o.1)) o.2) (F0 m 39 ls [])) (X : gX D (mcell g cI cS sa) mord g S s H locs) (hl : lv_has ls 5 [(0, .ref (g 99)), (1, .int x1), (3, .int x3), (4, .int x4)]) (hF : fX12_hush_b58 N r39 x1 x3 x4 S = some o) : W p l e (rmd 2) s m args below meth c H locs 0 0 (gE below args s D (mtys cI cS) (mcell g cI cS sa) mord g (some (.int o.1)) o.2) (F0 m 58 ls []) := by
  unfold fX12_hush_b58 at hF
  refine lv_iconst (v := 0) C.1.1 C.1.2.1 dX12_hush_58 (by decide) ?_
  exact bX12_hush_59 C O K39 X (lv_sub hl [0, 1, 2, 3] rfl) hF
noncomputable def fX12_hush_b52 (N : Nat) (r39 : Int32 → Int32 → Int32 → Int32 → gS → Option (Int32 × gS)) (x1 : Int32) (x2 : Int32) (x3 : Int32) (x4 : Int32) (S : gS) : Option (Int32 × gS) := fX12_hush_b59 N r39 x1 x3 x4 ((x2 + 1 : Int32)) S
theorem bX12_hush_52 {N : Nat} {r39 : Int32 → Int32 → Int32 → Int32 → gS → Option (Int32 × gS)} {x1 : Int32} {x2 : Int32} {x3 : Int32} {x4 : Int32} {S : gS} {H : Heap} {locs : List Loc} {ls : Array Slot} {o : Int32 × gS} (C : gC p s m args meth c cX12_hush 5 RX12 ((some .int)) D (mtys cI cS) mord g Am) (O : gO (mcell g cI cS sa) mord g) (K39 : ∀ (x1 : Int32) (x2 : Int32) (x3 : Int32) (x4 : Int32) (S : gS) (H : Heap) (locs : List Loc) (ls : Array Slot), gX D (mcell g cI cS sa) mord g S s H locs → lv_has ls 5 [(0, .ref (g 99)), (1, .int x1), (2, .int x2), (3, .int x3), (4, .int x4)] → r39 x1 x2 x3 x4 S = some o → W p l e (rmd 2) s m args below meth c H locs 0 0 (gE below args s D (mtys cI cS) (mcell g cI cS sa) mord g (some (.int o.1)) o.2) (F0 m 39 ls [])) (X : gX D (mcell g cI cS sa) mord g S s H locs) (hl : lv_has ls 5 [(0, .ref (g 99)), (1, .int x1), (2, .int x2), (3, .int x3), (4, .int x4)]) (hF : fX12_hush_b52 N r39 x1 x2 x3 x4 S = some o) : W p l e (rmd 2) s m args below meth c H locs 0 0 (gE below args s D (mtys cI cS) (mcell g cI cS sa) mord g (some (.int o.1)) o.2) (F0 m 52 ls []) := by
  unfold fX12_hush_b52 at hF
  refine lv_iload_n C.1.1 C.1.2.1 dX12_hush_52 rfl (lv_at hl 2 rfl) ?_
  refine lv_iconst (v := 1) C.1.1 C.1.2.1 dX12_hush_53 (by decide) ?_
  refine lv_iadd C.1.1 C.1.2.1 dX12_hush_54 ?_
  refine lv_goto (tgt := 59) C.1.1 C.1.2.1 dX12_hush_55 (by decide) ?_
  exact bX12_hush_59 C O K39 X (lv_sub hl [0, 1, 3, 4] rfl) hF
noncomputable def fX12_hush_b45 (N : Nat) (r39 : Int32 → Int32 → Int32 → Int32 → gS → Option (Int32 × gS)) (x1 : Int32) (x2 : Int32) (x3 : Int32) (x4 : Int32) (S : gS) : Option (Int32 × gS) := bnd (fX12_drippingNow N  S) fun q1 => (if q1.1 = 0 then fX12_hush_b52 N r39 x1 x2 x3 x4 q1.2 else fX12_hush_b58 N r39 x1 x3 x4 q1.2)
theorem bX12_hush_45 {N : Nat} {r39 : Int32 → Int32 → Int32 → Int32 → gS → Option (Int32 × gS)} {x1 : Int32} {x2 : Int32} {x3 : Int32} {x4 : Int32} {S : gS} {H : Heap} {locs : List Loc} {ls : Array Slot} {o : Int32 × gS} (C : gC p s m args meth c cX12_hush 5 RX12 ((some .int)) D (mtys cI cS) mord g Am) (O : gO (mcell g cI cS sa) mord g) (K39 : ∀ (x1 : Int32) (x2 : Int32) (x3 : Int32) (x4 : Int32) (S : gS) (H : Heap) (locs : List Loc) (ls : Array Slot), gX D (mcell g cI cS sa) mord g S s H locs → lv_has ls 5 [(0, .ref (g 99)), (1, .int x1), (2, .int x2), (3, .int x3), (4, .int x4)] → r39 x1 x2 x3 x4 S = some o → W p l e (rmd 2) s m args below meth c H locs 0 0 (gE below args s D (mtys cI cS) (mcell g cI cS sa) mord g (some (.int o.1)) o.2) (F0 m 39 ls [])) (X : gX D (mcell g cI cS sa) mord g S s H locs) (hl : lv_has ls 5 [(0, .ref (g 99)), (1, .int x1), (2, .int x2), (3, .int x3), (4, .int x4)]) (hF : fX12_hush_b45 N r39 x1 x2 x3 x4 S = some o) : W p l e (rmd 2) s m args below meth c H locs 0 0 (gE below args s D (mtys cI cS) (mcell g cI cS sa) mord g (some (.int o.1)) o.2) (F0 m 45 ls []) := by
  unfold fX12_hush_b45 at hF
  refine lv_aload_n C.1.1 C.1.2.1 dX12_hush_45 rfl (lv_at hl 0 rfl) ?_
  obtain ⟨q1, hq1, hF⟩ := bnd_some hF
  refine m_callVi C X vX12_drippingNow rfl (kX12_drippingNow O C.2.2.2.2.1 N   S q1 hq1) (Nat.le_of_ble_eq_true rfl) (Nat.le_of_ble_eq_true rfl) (Nat.le_of_ble_eq_true rfl) (Nat.le_of_ble_eq_true rfl) rfl hl.1 rfl (Nat.le_of_ble_eq_true rfl) dX12_hush_46 (fun H locs X => ?_)
  refine lv_if_ne (tgt := 58) C.1.1 C.1.2.1 dX12_hush_49 (by decide) (fun h_z => ?_) (fun h_z => ?_)
  · rw [if_neg h_z] at hF
    exact bX12_hush_58 C O K39 X (lv_sub hl [0, 1, 3, 4] rfl) hF
  · rw [if_pos h_z] at hF
    exact bX12_hush_52 C O K39 X (lv_sub hl [0, 1, 2, 3, 4] rfl) hF
noncomputable def fX12_hush_b39 (N : Nat) (r39 : Int32 → Int32 → Int32 → Int32 → gS → Option (Int32 × gS)) (x1 : Int32) (x2 : Int32) (x3 : Int32) (x4 : Int32) (S : gS) : Option (Int32 × gS) := if x1 ≤ x4 then fX12_hush_b82 N x3 S else fX12_hush_b45 N r39 x1 x2 x3 x4 S
theorem bX12_hush_39 {N : Nat} {r39 : Int32 → Int32 → Int32 → Int32 → gS → Option (Int32 × gS)} {x1 : Int32} {x2 : Int32} {x3 : Int32} {x4 : Int32} {S : gS} {H : Heap} {locs : List Loc} {ls : Array Slot} {o : Int32 × gS} (C : gC p s m args meth c cX12_hush 5 RX12 ((some .int)) D (mtys cI cS) mord g Am) (O : gO (mcell g cI cS sa) mord g) (K39 : ∀ (x1 : Int32) (x2 : Int32) (x3 : Int32) (x4 : Int32) (S : gS) (H : Heap) (locs : List Loc) (ls : Array Slot), gX D (mcell g cI cS sa) mord g S s H locs → lv_has ls 5 [(0, .ref (g 99)), (1, .int x1), (2, .int x2), (3, .int x3), (4, .int x4)] → r39 x1 x2 x3 x4 S = some o → W p l e (rmd 2) s m args below meth c H locs 0 0 (gE below args s D (mtys cI cS) (mcell g cI cS sa) mord g (some (.int o.1)) o.2) (F0 m 39 ls [])) (X : gX D (mcell g cI cS sa) mord g S s H locs) (hl : lv_has ls 5 [(0, .ref (g 99)), (1, .int x1), (2, .int x2), (3, .int x3), (4, .int x4)]) (hF : fX12_hush_b39 N r39 x1 x2 x3 x4 S = some o) : W p l e (rmd 2) s m args below meth c H locs 0 0 (gE below args s D (mtys cI cS) (mcell g cI cS sa) mord g (some (.int o.1)) o.2) (F0 m 39 ls []) := by
  unfold fX12_hush_b39 at hF
  refine lv_iload C.1.1 C.1.2.1 dX12_hush_39 (lv_at hl 4 rfl) ?_
  refine lv_iload_n C.1.1 C.1.2.1 dX12_hush_41 rfl (lv_at hl 1 rfl) ?_
  refine lv_icmp_ge (tgt := 82) C.1.1 C.1.2.1 dX12_hush_42 (by decide) (fun h_z => ?_) (fun h_z => ?_)
  · rw [if_pos h_z] at hF
    exact bX12_hush_82 C O X (lv_sub hl [0, 3] rfl) hF
  · rw [if_neg h_z] at hF
    exact bX12_hush_45 C O K39 X (lv_sub hl [0, 1, 2, 3, 4] rfl) hF
noncomputable def fX12_hush_h39 (N : Nat) : Nat → Int32 → Int32 → Int32 → Int32 → gS → Option (Int32 × gS)
  | 0, _, _, _, _, _ => none
  | n + 1, x1, x2, x3, x4, S => fX12_hush_b39 N (fX12_hush_h39 N n) x1 x2 x3 x4 S
theorem hX12_hush_39 {N : Nat} {o : Int32 × gS} (C : gC p s m args meth c cX12_hush 5 RX12 ((some .int)) D (mtys cI cS) mord g Am) (O : gO (mcell g cI cS sa) mord g) : ∀ (n : Nat) (x1 : Int32) (x2 : Int32) (x3 : Int32) (x4 : Int32) (S : gS) (H : Heap) (locs : List Loc) (ls : Array Slot), gX D (mcell g cI cS sa) mord g S s H locs → lv_has ls 5 [(0, .ref (g 99)), (1, .int x1), (2, .int x2), (3, .int x3), (4, .int x4)] → fX12_hush_h39 N n x1 x2 x3 x4 S = some o → W p l e (rmd 2) s m args below meth c H locs 0 0 (gE below args s D (mtys cI cS) (mcell g cI cS sa) mord g (some (.int o.1)) o.2) (F0 m 39 ls []) := by
  intro n
  induction n with
  | zero =>
    intro x1 x2 x3 x4 S H locs ls X hl hF
    exact absurd (show (none : Option (Int32 × gS)) = some o from hF) (by simp)
  | succ n ih =>
    intro x1 x2 x3 x4 S H locs ls X hl hF
    have hF : fX12_hush_b39 N (fX12_hush_h39 N n) x1 x2 x3 x4 S = some o := hF
    exact bX12_hush_39 C O ih X hl hF
noncomputable def fX12_hush_b23 (N : Nat) (x1 : Int32) (S : gS) : Option (Int32 × gS) := bnd (fX12_pack N 46 0 S) fun q1 => (fX12_hush_h39 N N x1 0 0 0 q1.2)
theorem bX12_hush_23 {N : Nat} {x1 : Int32} {S : gS} {H : Heap} {locs : List Loc} {ls : Array Slot} {o : Int32 × gS} (C : gC p s m args meth c cX12_hush 5 RX12 ((some .int)) D (mtys cI cS) mord g Am) (O : gO (mcell g cI cS sa) mord g) (X : gX D (mcell g cI cS sa) mord g S s H locs) (hl : lv_has ls 5 [(0, .ref (g 99)), (1, .int x1)]) (hF : fX12_hush_b23 N x1 S = some o) : W p l e (rmd 2) s m args below meth c H locs 0 0 (gE below args s D (mtys cI cS) (mcell g cI cS sa) mord g (some (.int o.1)) o.2) (F0 m 23 ls []) := by
  unfold fX12_hush_b23 at hF
  refine lv_aload_n C.1.1 C.1.2.1 dX12_hush_23 rfl (lv_at hl 0 rfl) ?_
  refine lv_aload_n C.1.1 C.1.2.1 dX12_hush_24 rfl (lv_at hl 0 rfl) ?_
  refine m_g46 C X dX12_hush_25 ?_
  refine lv_iconst (v := 0) C.1.1 C.1.2.1 dX12_hush_28 (by decide) ?_
  obtain ⟨q1, hq1, hF⟩ := bnd_some hF
  refine m_callV C X vX12_pack rfl (kX12_pack O C.2.2.2.2.1 N 46 0 (rfl : mI 46 = true) S q1 hq1) (Nat.le_of_ble_eq_true rfl) (Nat.le_of_ble_eq_true rfl) (Nat.le_of_ble_eq_true rfl) (Nat.le_of_ble_eq_true rfl) rfl hl.1 rfl (Nat.le_of_ble_eq_true rfl) dX12_hush_29 (fun H locs X => ?_)
  refine lv_iconst (v := 0) C.1.1 C.1.2.1 dX12_hush_32 (by decide) ?_
  refine lv_istore_n (lv' := [(2, .int 0), (0, .ref (g 99)), (1, .int x1)]) C.1.1 C.1.2.1 dX12_hush_33 rfl hl (by decide) rfl (fun ls hl => ?_)
  refine lv_iconst (v := 0) C.1.1 C.1.2.1 dX12_hush_34 (by decide) ?_
  refine lv_istore_n (lv' := [(3, .int 0), (2, .int 0), (0, .ref (g 99)), (1, .int x1)]) C.1.1 C.1.2.1 dX12_hush_35 rfl hl (by decide) rfl (fun ls hl => ?_)
  refine lv_iconst (v := 0) C.1.1 C.1.2.1 dX12_hush_36 (by decide) ?_
  refine lv_istore (lv' := [(4, .int 0), (3, .int 0), (2, .int 0), (0, .ref (g 99)), (1, .int x1)]) C.1.1 C.1.2.1 dX12_hush_37 hl (by decide) rfl (fun ls hl => ?_)
  exact hX12_hush_39 C O N _ _ _ _ _ _ _ _ X (lv_sub hl [3, 4, 2, 1, 0] rfl) hF
noncomputable def fX12_hush_b17 (N : Nat) (S : gS) : Option (Int32 × gS) := bnd (fX12_fail N 1 S) fun q1 => (some (q1.1, q1.2))
theorem bX12_hush_17 {N : Nat} {S : gS} {H : Heap} {locs : List Loc} {ls : Array Slot} {o : Int32 × gS} (C : gC p s m args meth c cX12_hush 5 RX12 ((some .int)) D (mtys cI cS) mord g Am) (O : gO (mcell g cI cS sa) mord g) (X : gX D (mcell g cI cS sa) mord g S s H locs) (hl : lv_has ls 5 [(0, .ref (g 99))]) (hF : fX12_hush_b17 N S = some o) : W p l e (rmd 2) s m args below meth c H locs 0 0 (gE below args s D (mtys cI cS) (mcell g cI cS sa) mord g (some (.int o.1)) o.2) (F0 m 17 ls []) := by
  unfold fX12_hush_b17 at hF
  refine lv_aload_n C.1.1 C.1.2.1 dX12_hush_17 rfl (lv_at hl 0 rfl) ?_
  refine lv_iconst (v := 1) C.1.1 C.1.2.1 dX12_hush_18 (by decide) ?_
  obtain ⟨q1, hq1, hF⟩ := bnd_some hF
  refine m_callVi C X vX12_fail rfl (kX12_fail O C.2.2.2.2.1 N 1  S q1 hq1) (Nat.le_of_ble_eq_true rfl) (Nat.le_of_ble_eq_true rfl) (Nat.le_of_ble_eq_true rfl) (Nat.le_of_ble_eq_true rfl) rfl hl.1 rfl (Nat.le_of_ble_eq_true rfl) dX12_hush_19 (fun H locs X => ?_)
  cases hF
  exact g_iret C X dX12_hush_22
noncomputable def fX12_hush_b0 (N : Nat) (x1 : Int32) (S : gS) : Option (Int32 × gS) := lt (sU S 99 4 0) fun S1 => (bnd (fX12_isIn N (Int32.toInt64 x1) 1 60 S1) fun q1 => (if q1.1 = 0 then fX12_hush_b17 N q1.2 else fX12_hush_b23 N x1 q1.2))
theorem bX12_hush_0 {N : Nat} {x1 : Int32} {S : gS} {H : Heap} {locs : List Loc} {ls : Array Slot} {o : Int32 × gS} (C : gC p s m args meth c cX12_hush 5 RX12 ((some .int)) D (mtys cI cS) mord g Am) (O : gO (mcell g cI cS sa) mord g) (X : gX D (mcell g cI cS sa) mord g S s H locs) (hl : lv_has ls 5 [(0, .ref (g 99)), (1, .int x1)]) (hF : fX12_hush_b0 N x1 S = some o) : W p l e (rmd 2) s m args below meth c H locs 0 0 (gE below args s D (mtys cI cS) (mcell g cI cS sa) mord g (some (.int o.1)) o.2) (F0 m 0 ls []) := by
  unfold fX12_hush_b0 at hF
  refine lv_aload_n C.1.1 C.1.2.1 dX12_hush_0 rfl (lv_at hl 0 rfl) ?_
  refine lv_iconst (v := 0) C.1.1 C.1.2.1 dX12_hush_1 (by decide) ?_
  obtain ⟨S1, eS1, hF⟩ := lt_some hF
  refine m_p4 C O X eS1 dX12_hush_2 (fun H locs X => ?_)
  refine lv_iload_n C.1.1 C.1.2.1 dX12_hush_5 rfl (lv_at hl 1 rfl) ?_
  refine lv_i2l (v := Int32.toInt64 x1) C.1.1 C.1.2.1 dX12_hush_6 rfl ?_
  refine lv_lconst (v := 1) C.1.1 C.1.2.1 dX12_hush_7 (by decide) ?_
  refine lv_ldc2 C.1.1 C.1.2.1 C.1.2.2.2.1 (C.1.2.2.2.2 _ mKL432) dX12_hush_8 ?_
  obtain ⟨q1, hq1, hF⟩ := bnd_some hF
  refine g_callSi C X vX12_isIn (kX12_isIn O C.2.2.2.2.1 N (Int32.toInt64 x1) 1 60  S1 q1 hq1) (Nat.le_of_ble_eq_true rfl) (Nat.le_of_ble_eq_true rfl) (Nat.le_of_ble_eq_true rfl) (Nat.le_of_ble_eq_true rfl) rfl hl.1 rfl (Nat.le_of_ble_eq_true rfl) dX12_hush_11 (fun H locs X => ?_)
  refine lv_if_ne (tgt := 23) C.1.1 C.1.2.1 dX12_hush_14 (by decide) (fun h_z => ?_) (fun h_z => ?_)
  · rw [if_neg h_z] at hF
    exact bX12_hush_23 C O X (lv_sub hl [0, 1] rfl) hF
  · rw [if_pos h_z] at hF
    exact bX12_hush_17 C O X (lv_sub hl [0] rfl) hF
noncomputable def fX12_hush (N : Nat) (x1 : Int32) (S : gS) : Option (Int32 × gS) := fX12_hush_b0 N x1 S
theorem kX12_hush {l : Launch} {D : va_G} {g : Nat → Nat} {cI cS : ClassId} {sa : Nat → Nat → Option Nat} {Am : (Nat → Prop) → State → Heap → Prop} (O : gO (mcell g cI cS sa) mord g) (P : gAm Am) (N : Nat) (x1 : Int32) (S : gS) (o : Int32 × gS) (hF : fX12_hush N x1 S = some o) : gM l yX12_hush cX12_hush 5 ((some .int)) 2 D (mtys cI cS) (mcell g cI cS sa) mord g Am [.ref (g 99), .int x1] S (some (.int o.1)) o.2 :=
  gM_of O P (by decide) (Nat.le_of_ble_eq_true rfl) (fun p e s m args below meth c ls C X hl => bX12_hush_0 C O X (lv_sub hl [0, 1] rfl) hF)
-- chorus
noncomputable def fX12_chorus_b86 (N : Nat) (x2 : Int32) (S : gS) : Option (Int32 × gS) := bnd (fX12_unpack N 46 0 S) fun q1 => (some (x2, q1.2))
theorem bX12_chorus_86 {N : Nat} {x2 : Int32} {S : gS} {H : Heap} {locs : List Loc} {ls : Array Slot} {o : Int32 × gS} (C : gC p s m args meth c cX12_chorus 6 RX12 ((some .int)) D (mtys cI cS) mord g Am) (O : gO (mcell g cI cS sa) mord g) (X : gX D (mcell g cI cS sa) mord g S s H locs) (hl : lv_has ls 6 [(0, .ref (g 99)), (2, .int x2)]) (hF : fX12_chorus_b86 N x2 S = some o) : W p l e (rmd 2) s m args below meth c H locs 0 0 (gE below args s D (mtys cI cS) (mcell g cI cS sa) mord g (some (.int o.1)) o.2) (F0 m 86 ls []) := by
  unfold fX12_chorus_b86 at hF
  refine lv_aload_n C.1.1 C.1.2.1 dX12_chorus_86 rfl (lv_at hl 0 rfl) ?_
  refine lv_aload_n C.1.1 C.1.2.1 dX12_chorus_87 rfl (lv_at hl 0 rfl) ?_
  refine m_g46 C X dX12_chorus_88 ?_
  refine lv_iconst (v := 0) C.1.1 C.1.2.1 dX12_chorus_91 (by decide) ?_
  obtain ⟨q1, hq1, hF⟩ := bnd_some hF
  refine m_callV C X vX12_unpack rfl (kX12_unpack O C.2.2.2.2.1 N 46 0 (rfl : mI 46 = true) S q1 hq1) (Nat.le_of_ble_eq_true rfl) (Nat.le_of_ble_eq_true rfl) (Nat.le_of_ble_eq_true rfl) (Nat.le_of_ble_eq_true rfl) rfl hl.1 rfl (Nat.le_of_ble_eq_true rfl) dX12_chorus_92 (fun H locs X => ?_)
  refine lv_iload_n C.1.1 C.1.2.1 dX12_chorus_95 rfl (lv_at hl 1 rfl) ?_
  cases hF
  exact g_iret C X dX12_chorus_96
noncomputable def fX12_chorus_b63 (N : Nat) (r39 : Int32 → Int32 → Int32 → Int32 → gS → Option (Int32 × gS)) (x1 : Int32) (x2 : Int32) (x3 : Int32) (x4 : Int32) (x5 : Int32) (S : gS) : Option (Int32 × gS) := lt (sU S 99 37 (((S 99 37) + 1 : Int32))) fun S1 => (r39 x1 x2 (if x3 < x5 then x5 else x3) ((x4 + 1 : Int32)) S1)
theorem bX12_chorus_63 {N : Nat} {r39 : Int32 → Int32 → Int32 → Int32 → gS → Option (Int32 × gS)} {x1 : Int32} {x2 : Int32} {x3 : Int32} {x4 : Int32} {x5 : Int32} {S : gS} {H : Heap} {locs : List Loc} {ls : Array Slot} {o : Int32 × gS} (C : gC p s m args meth c cX12_chorus 6 RX12 ((some .int)) D (mtys cI cS) mord g Am) (O : gO (mcell g cI cS sa) mord g) (K39 : ∀ (x1 : Int32) (x2 : Int32) (x3 : Int32) (x4 : Int32) (S : gS) (H : Heap) (locs : List Loc) (ls : Array Slot), gX D (mcell g cI cS sa) mord g S s H locs → lv_has ls 6 [(0, .ref (g 99)), (1, .int x1), (2, .int x2), (3, .int x3), (4, .int x4)] → r39 x1 x2 x3 x4 S = some o → W p l e (rmd 2) s m args below meth c H locs 0 0 (gE below args s D (mtys cI cS) (mcell g cI cS sa) mord g (some (.int o.1)) o.2) (F0 m 39 ls [])) (X : gX D (mcell g cI cS sa) mord g S s H locs) (hl : lv_has ls 6 [(0, .ref (g 99)), (1, .int x1), (2, .int x2), (3, .int x3), (4, .int x4), (5, .int x5)]) (hF : fX12_chorus_b63 N r39 x1 x2 x3 x4 x5 S = some o) : W p l e (rmd 2) s m args below meth c H locs 0 0 (gE below args s D (mtys cI cS) (mcell g cI cS sa) mord g (some (.int o.1)) o.2) (F0 m 63 ls []) := by
  unfold fX12_chorus_b63 at hF
  refine lv_iload_n C.1.1 C.1.2.1 dX12_chorus_63 rfl (lv_at hl 3 rfl) ?_
  refine lv_iload C.1.1 C.1.2.1 dX12_chorus_64 (lv_at hl 5 rfl) ?_
  refine g_max C hl.1 mMmax354 ⟨Nat.le_of_ble_eq_true rfl, Nat.le_of_ble_eq_true rfl⟩ (Nat.le_of_ble_eq_true rfl) (Nat.le_of_ble_eq_true rfl) dX12_chorus_66 ?_
  refine lv_istore_n (lv' := [(3, .int (if x3 < x5 then x5 else x3)), (0, .ref (g 99)), (1, .int x1), (2, .int x2), (4, .int x4), (5, .int x5)]) C.1.1 C.1.2.1 dX12_chorus_69 rfl hl (by decide) rfl (fun ls hl => ?_)
  refine lv_aload_n C.1.1 C.1.2.1 dX12_chorus_70 rfl (lv_at hl 1 rfl) ?_
  refine lv_dup C.1.1 C.1.2.1 dX12_chorus_71 rfl ?_
  refine m_g37 C X dX12_chorus_72 ?_
  refine lv_iconst (v := 1) C.1.1 C.1.2.1 dX12_chorus_75 (by decide) ?_
  refine lv_iadd C.1.1 C.1.2.1 dX12_chorus_76 ?_
  obtain ⟨S1, eS1, hF⟩ := lt_some hF
  refine m_p37 C O X eS1 dX12_chorus_77 (fun H locs X => ?_)
  refine lv_iinc (v := (x4 + 1 : Int32)) (lv' := [(4, .int ((x4 + 1 : Int32))), (3, .int (if x3 < x5 then x5 else x3)), (0, .ref (g 99)), (1, .int x1), (2, .int x2), (5, .int x5)]) C.1.1 C.1.2.1 dX12_chorus_80 hl (k := 4) rfl rfl (by decide) rfl (fun ls hl => ?_)
  refine lv_goto (tgt := 39) C.1.1 C.1.2.1 dX12_chorus_83 (by decide) ?_
  exact K39 _ _ _ _ _ _ _ _ X (lv_sub hl [2, 3, 4, 1, 0] rfl) hF
noncomputable def fX12_chorus_b60 (N : Nat) (r39 : Int32 → Int32 → Int32 → Int32 → gS → Option (Int32 × gS)) (x1 : Int32) (x3 : Int32) (x4 : Int32) (x5 : Int32) (S : gS) : Option (Int32 × gS) := fX12_chorus_b63 N r39 x1 x4 x3 x4 x5 S
theorem bX12_chorus_60 {N : Nat} {r39 : Int32 → Int32 → Int32 → Int32 → gS → Option (Int32 × gS)} {x1 : Int32} {x3 : Int32} {x4 : Int32} {x5 : Int32} {S : gS} {H : Heap} {locs : List Loc} {ls : Array Slot} {o : Int32 × gS} (C : gC p s m args meth c cX12_chorus 6 RX12 ((some .int)) D (mtys cI cS) mord g Am) (O : gO (mcell g cI cS sa) mord g) (K39 : ∀ (x1 : Int32) (x2 : Int32) (x3 : Int32) (x4 : Int32) (S : gS) (H : Heap) (locs : List Loc) (ls : Array Slot), gX D (mcell g cI cS sa) mord g S s H locs → lv_has ls 6 [(0, .ref (g 99)), (1, .int x1), (2, .int x2), (3, .int x3), (4, .int x4)] → r39 x1 x2 x3 x4 S = some o → W p l e (rmd 2) s m args below meth c H locs 0 0 (gE below args s D (mtys cI cS) (mcell g cI cS sa) mord g (some (.int o.1)) o.2) (F0 m 39 ls [])) (X : gX D (mcell g cI cS sa) mord g S s H locs) (hl : lv_has ls 6 [(0, .ref (g 99)), (1, .int x1), (3, .int x3), (4, .int x4), (5, .int x5)]) (hF : fX12_chorus_b60 N r39 x1 x3 x4 x5 S = some o) : W p l e (rmd 2) s m args below meth c H locs 0 0 (gE below args s D (mtys cI cS) (mcell g cI cS sa) mord g (some (.int o.1)) o.2) (F0 m 60 ls []) := by
  unfold fX12_chorus_b60 at hF
  refine lv_iload C.1.1 C.1.2.1 dX12_chorus_60 (lv_at hl 3 rfl) ?_
  refine lv_istore_n (lv' := [(2, .int x4), (0, .ref (g 99)), (1, .int x1), (3, .int x3), (4, .int x4), (5, .int x5)]) C.1.1 C.1.2.1 dX12_chorus_62 rfl hl (by decide) rfl (fun ls hl => ?_)
  exact bX12_chorus_63 C O K39 X (lv_sub hl [1, 2, 0, 3, 4, 5] rfl) hF
noncomputable def fX12_chorus_b45 (N : Nat) (r39 : Int32 → Int32 → Int32 → Int32 → gS → Option (Int32 × gS)) (x1 : Int32) (x2 : Int32) (x3 : Int32) (x4 : Int32) (S : gS) : Option (Int32 × gS) := bnd (fX12_drippingNow N  S) fun q1 => (bnd (fX12_bitsOf N q1.1 q1.2) fun q2 => (if q2.1 ≤ x3 then fX12_chorus_b63 N r39 x1 x2 x3 x4 q2.1 q2.2 else fX12_chorus_b60 N r39 x1 x3 x4 q2.1 q2.2))
theorem bX12_chorus_45 {N : Nat} {r39 : Int32 → Int32 → Int32 → Int32 → gS → Option (Int32 × gS)} {x1 : Int32} {x2 : Int32} {x3 : Int32} {x4 : Int32} {S : gS} {H : Heap} {locs : List Loc} {ls : Array Slot} {o : Int32 × gS} (C : gC p s m args meth c cX12_chorus 6 RX12 ((some .int)) D (mtys cI cS) mord g Am) (O : gO (mcell g cI cS sa) mord g) (K39 : ∀ (x1 : Int32) (x2 : Int32) (x3 : Int32) (x4 : Int32) (S : gS) (H : Heap) (locs : List Loc) (ls : Array Slot), gX D (mcell g cI cS sa) mord g S s H locs → lv_has ls 6 [(0, .ref (g 99)), (1, .int x1), (2, .int x2), (3, .int x3), (4, .int x4)] → r39 x1 x2 x3 x4 S = some o → W p l e (rmd 2) s m args below meth c H locs 0 0 (gE below args s D (mtys cI cS) (mcell g cI cS sa) mord g (some (.int o.1)) o.2) (F0 m 39 ls [])) (X : gX D (mcell g cI cS sa) mord g S s H locs) (hl : lv_has ls 6 [(0, .ref (g 99)), (1, .int x1), (2, .int x2), (3, .int x3), (4, .int x4)]) (hF : fX12_chorus_b45 N r39 x1 x2 x3 x4 S = some o) : W p l e (rmd 2) s m args below meth c H locs 0 0 (gE below args s D (mtys cI cS) (mcell g cI cS sa) mord g (some (.int o.1)) o.2) (F0 m 45 ls []) := by
  unfold fX12_chorus_b45 at hF
  refine lv_aload_n C.1.1 C.1.2.1 dX12_chorus_45 rfl (lv_at hl 0 rfl) ?_
  obtain ⟨q1, hq1, hF⟩ := bnd_some hF
  refine m_callVi C X vX12_drippingNow rfl (kX12_drippingNow O C.2.2.2.2.1 N   S q1 hq1) (Nat.le_of_ble_eq_true rfl) (Nat.le_of_ble_eq_true rfl) (Nat.le_of_ble_eq_true rfl) (Nat.le_of_ble_eq_true rfl) rfl hl.1 rfl (Nat.le_of_ble_eq_true rfl) dX12_chorus_46 (fun H locs X => ?_)
  obtain ⟨q2, hq2, hF⟩ := bnd_some hF
  refine g_callSi C X vX12_bitsOf (kX12_bitsOf O C.2.2.2.2.1 N q1.1  q1.2 q2 hq2) (Nat.le_of_ble_eq_true rfl) (Nat.le_of_ble_eq_true rfl) (Nat.le_of_ble_eq_true rfl) (Nat.le_of_ble_eq_true rfl) rfl hl.1 rfl (Nat.le_of_ble_eq_true rfl) dX12_chorus_49 (fun H locs X => ?_)
  refine lv_istore (lv' := [(5, .int q2.1), (0, .ref (g 99)), (1, .int x1), (2, .int x2), (3, .int x3), (4, .int x4)]) C.1.1 C.1.2.1 dX12_chorus_52 hl (by decide) rfl (fun ls hl => ?_)
  refine lv_iload C.1.1 C.1.2.1 dX12_chorus_54 (lv_at hl 0 rfl) ?_
  refine lv_iload_n C.1.1 C.1.2.1 dX12_chorus_56 rfl (lv_at hl 4 rfl) ?_
  refine lv_icmp_le (tgt := 63) C.1.1 C.1.2.1 dX12_chorus_57 (by decide) (fun h_z => ?_) (fun h_z => ?_)
  · rw [if_pos h_z] at hF
    exact bX12_chorus_63 C O K39 X (lv_sub hl [1, 2, 3, 4, 5, 0] rfl) hF
  · rw [if_neg h_z] at hF
    exact bX12_chorus_60 C O K39 X (lv_sub hl [1, 2, 4, 5, 0] rfl) hF
noncomputable def fX12_chorus_b39 (N : Nat) (r39 : Int32 → Int32 → Int32 → Int32 → gS → Option (Int32 × gS)) (x1 : Int32) (x2 : Int32) (x3 : Int32) (x4 : Int32) (S : gS) : Option (Int32 × gS) := if x1 < x4 then fX12_chorus_b86 N x2 S else fX12_chorus_b45 N r39 x1 x2 x3 x4 S
theorem bX12_chorus_39 {N : Nat} {r39 : Int32 → Int32 → Int32 → Int32 → gS → Option (Int32 × gS)} {x1 : Int32} {x2 : Int32} {x3 : Int32} {x4 : Int32} {S : gS} {H : Heap} {locs : List Loc} {ls : Array Slot} {o : Int32 × gS} (C : gC p s m args meth c cX12_chorus 6 RX12 ((some .int)) D (mtys cI cS) mord g Am) (O : gO (mcell g cI cS sa) mord g) (K39 : ∀ (x1 : Int32) (x2 : Int32) (x3 : Int32) (x4 : Int32) (S : gS) (H : Heap) (locs : List Loc) (ls : Array Slot), gX D (mcell g cI cS sa) mord g S s H locs → lv_has ls 6 [(0, .ref (g 99)), (1, .int x1), (2, .int x2), (3, .int x3), (4, .int x4)] → r39 x1 x2 x3 x4 S = some o → W p l e (rmd 2) s m args below meth c H locs 0 0 (gE below args s D (mtys cI cS) (mcell g cI cS sa) mord g (some (.int o.1)) o.2) (F0 m 39 ls [])) (X : gX D (mcell g cI cS sa) mord g S s H locs) (hl : lv_has ls 6 [(0, .ref (g 99)), (1, .int x1), (2, .int x2), (3, .int x3), (4, .int x4)]) (hF : fX12_chorus_b39 N r39 x1 x2 x3 x4 S = some o) : W p l e (rmd 2) s m args below meth c H locs 0 0 (gE below args s D (mtys cI cS) (mcell g cI cS sa) mord g (some (.int o.1)) o.2) (F0 m 39 ls []) := by
  unfold fX12_chorus_b39 at hF
  refine lv_iload C.1.1 C.1.2.1 dX12_chorus_39 (lv_at hl 4 rfl) ?_
  refine lv_iload_n C.1.1 C.1.2.1 dX12_chorus_41 rfl (lv_at hl 1 rfl) ?_
  refine lv_icmp_gt (tgt := 86) C.1.1 C.1.2.1 dX12_chorus_42 (by decide) (fun h_z => ?_) (fun h_z => ?_)
  · rw [if_pos h_z] at hF
    exact bX12_chorus_86 C O X (lv_sub hl [0, 2] rfl) hF
  · rw [if_neg h_z] at hF
    exact bX12_chorus_45 C O K39 X (lv_sub hl [0, 1, 2, 3, 4] rfl) hF
noncomputable def fX12_chorus_h39 (N : Nat) : Nat → Int32 → Int32 → Int32 → Int32 → gS → Option (Int32 × gS)
  | 0, _, _, _, _, _ => none
  | n + 1, x1, x2, x3, x4, S => fX12_chorus_b39 N (fX12_chorus_h39 N n) x1 x2 x3 x4 S
theorem hX12_chorus_39 {N : Nat} {o : Int32 × gS} (C : gC p s m args meth c cX12_chorus 6 RX12 ((some .int)) D (mtys cI cS) mord g Am) (O : gO (mcell g cI cS sa) mord g) : ∀ (n : Nat) (x1 : Int32) (x2 : Int32) (x3 : Int32) (x4 : Int32) (S : gS) (H : Heap) (locs : List Loc) (ls : Array Slot), gX D (mcell g cI cS sa) mord g S s H locs → lv_has ls 6 [(0, .ref (g 99)), (1, .int x1), (2, .int x2), (3, .int x3), (4, .int x4)] → fX12_chorus_h39 N n x1 x2 x3 x4 S = some o → W p l e (rmd 2) s m args below meth c H locs 0 0 (gE below args s D (mtys cI cS) (mcell g cI cS sa) mord g (some (.int o.1)) o.2) (F0 m 39 ls []) := by
  intro n
  induction n with
  | zero =>
    intro x1 x2 x3 x4 S H locs ls X hl hF
    exact absurd (show (none : Option (Int32 × gS)) = some o from hF) (by simp)
  | succ n ih =>
    intro x1 x2 x3 x4 S H locs ls X hl hF
    have hF : fX12_chorus_b39 N (fX12_chorus_h39 N n) x1 x2 x3 x4 S = some o := hF
    exact bX12_chorus_39 C O ih X hl hF
noncomputable def fX12_chorus_b23 (N : Nat) (x1 : Int32) (S : gS) : Option (Int32 × gS) := bnd (fX12_pack N 46 0 S) fun q1 => (fX12_chorus_h39 N N x1 ((-1)) ((-1)) 1 q1.2)
theorem bX12_chorus_23 {N : Nat} {x1 : Int32} {S : gS} {H : Heap} {locs : List Loc} {ls : Array Slot} {o : Int32 × gS} (C : gC p s m args meth c cX12_chorus 6 RX12 ((some .int)) D (mtys cI cS) mord g Am) (O : gO (mcell g cI cS sa) mord g) (X : gX D (mcell g cI cS sa) mord g S s H locs) (hl : lv_has ls 6 [(0, .ref (g 99)), (1, .int x1)]) (hF : fX12_chorus_b23 N x1 S = some o) : W p l e (rmd 2) s m args below meth c H locs 0 0 (gE below args s D (mtys cI cS) (mcell g cI cS sa) mord g (some (.int o.1)) o.2) (F0 m 23 ls []) := by
  unfold fX12_chorus_b23 at hF
  refine lv_aload_n C.1.1 C.1.2.1 dX12_chorus_23 rfl (lv_at hl 0 rfl) ?_
  refine lv_aload_n C.1.1 C.1.2.1 dX12_chorus_24 rfl (lv_at hl 0 rfl) ?_
  refine m_g46 C X dX12_chorus_25 ?_
  refine lv_iconst (v := 0) C.1.1 C.1.2.1 dX12_chorus_28 (by decide) ?_
  obtain ⟨q1, hq1, hF⟩ := bnd_some hF
  refine m_callV C X vX12_pack rfl (kX12_pack O C.2.2.2.2.1 N 46 0 (rfl : mI 46 = true) S q1 hq1) (Nat.le_of_ble_eq_true rfl) (Nat.le_of_ble_eq_true rfl) (Nat.le_of_ble_eq_true rfl) (Nat.le_of_ble_eq_true rfl) rfl hl.1 rfl (Nat.le_of_ble_eq_true rfl) dX12_chorus_29 (fun H locs X => ?_)
  refine lv_iconst (v := (-1)) C.1.1 C.1.2.1 dX12_chorus_32 (by decide) ?_
  refine lv_istore_n (lv' := [(2, .int ((-1))), (0, .ref (g 99)), (1, .int x1)]) C.1.1 C.1.2.1 dX12_chorus_33 rfl hl (by decide) rfl (fun ls hl => ?_)
  refine lv_iconst (v := (-1)) C.1.1 C.1.2.1 dX12_chorus_34 (by decide) ?_
  refine lv_istore_n (lv' := [(3, .int ((-1))), (2, .int ((-1))), (0, .ref (g 99)), (1, .int x1)]) C.1.1 C.1.2.1 dX12_chorus_35 rfl hl (by decide) rfl (fun ls hl => ?_)
  refine lv_iconst (v := 1) C.1.1 C.1.2.1 dX12_chorus_36 (by decide) ?_
  refine lv_istore (lv' := [(4, .int 1), (3, .int ((-1))), (2, .int ((-1))), (0, .ref (g 99)), (1, .int x1)]) C.1.1 C.1.2.1 dX12_chorus_37 hl (by decide) rfl (fun ls hl => ?_)
  exact hX12_chorus_39 C O N _ _ _ _ _ _ _ _ X (lv_sub hl [3, 4, 2, 1, 0] rfl) hF
noncomputable def fX12_chorus_b17 (N : Nat) (S : gS) : Option (Int32 × gS) := bnd (fX12_fail N 1 S) fun q1 => (some (q1.1, q1.2))
theorem bX12_chorus_17 {N : Nat} {S : gS} {H : Heap} {locs : List Loc} {ls : Array Slot} {o : Int32 × gS} (C : gC p s m args meth c cX12_chorus 6 RX12 ((some .int)) D (mtys cI cS) mord g Am) (O : gO (mcell g cI cS sa) mord g) (X : gX D (mcell g cI cS sa) mord g S s H locs) (hl : lv_has ls 6 [(0, .ref (g 99))]) (hF : fX12_chorus_b17 N S = some o) : W p l e (rmd 2) s m args below meth c H locs 0 0 (gE below args s D (mtys cI cS) (mcell g cI cS sa) mord g (some (.int o.1)) o.2) (F0 m 17 ls []) := by
  unfold fX12_chorus_b17 at hF
  refine lv_aload_n C.1.1 C.1.2.1 dX12_chorus_17 rfl (lv_at hl 0 rfl) ?_
  refine lv_iconst (v := 1) C.1.1 C.1.2.1 dX12_chorus_18 (by decide) ?_
  obtain ⟨q1, hq1, hF⟩ := bnd_some hF
  refine m_callVi C X vX12_fail rfl (kX12_fail O C.2.2.2.2.1 N 1  S q1 hq1) (Nat.le_of_ble_eq_true rfl) (Nat.le_of_ble_eq_true rfl) (Nat.le_of_ble_eq_true rfl) (Nat.le_of_ble_eq_true rfl) rfl hl.1 rfl (Nat.le_of_ble_eq_true rfl) dX12_chorus_19 (fun H locs X => ?_)
  cases hF
  exact g_iret C X dX12_chorus_22
noncomputable def fX12_chorus_b0 (N : Nat) (x1 : Int32) (S : gS) : Option (Int32 × gS) := lt (sU S 99 4 0) fun S1 => (bnd (fX12_isIn N (Int32.toInt64 x1) 1 60 S1) fun q1 => (if q1.1 = 0 then fX12_chorus_b17 N q1.2 else fX12_chorus_b23 N x1 q1.2))
theorem bX12_chorus_0 {N : Nat} {x1 : Int32} {S : gS} {H : Heap} {locs : List Loc} {ls : Array Slot} {o : Int32 × gS} (C : gC p s m args meth c cX12_chorus 6 RX12 ((some .int)) D (mtys cI cS) mord g Am) (O : gO (mcell g cI cS sa) mord g) (X : gX D (mcell g cI cS sa) mord g S s H locs) (hl : lv_has ls 6 [(0, .ref (g 99)), (1, .int x1)]) (hF : fX12_chorus_b0 N x1 S = some o) : W p l e (rmd 2) s m args below meth c H locs 0 0 (gE below args s D (mtys cI cS) (mcell g cI cS sa) mord g (some (.int o.1)) o.2) (F0 m 0 ls []) := by
  unfold fX12_chorus_b0 at hF
  refine lv_aload_n C.1.1 C.1.2.1 dX12_chorus_0 rfl (lv_at hl 0 rfl) ?_
  refine lv_iconst (v := 0) C.1.1 C.1.2.1 dX12_chorus_1 (by decide) ?_
  obtain ⟨S1, eS1, hF⟩ := lt_some hF
  refine m_p4 C O X eS1 dX12_chorus_2 (fun H locs X => ?_)
  refine lv_iload_n C.1.1 C.1.2.1 dX12_chorus_5 rfl (lv_at hl 1 rfl) ?_
  refine lv_i2l (v := Int32.toInt64 x1) C.1.1 C.1.2.1 dX12_chorus_6 rfl ?_
  refine lv_lconst (v := 1) C.1.1 C.1.2.1 dX12_chorus_7 (by decide) ?_
  refine lv_ldc2 C.1.1 C.1.2.1 C.1.2.2.2.1 (C.1.2.2.2.2 _ mKL432) dX12_chorus_8 ?_
  obtain ⟨q1, hq1, hF⟩ := bnd_some hF
  refine g_callSi C X vX12_isIn (kX12_isIn O C.2.2.2.2.1 N (Int32.toInt64 x1) 1 60  S1 q1 hq1) (Nat.le_of_ble_eq_true rfl) (Nat.le_of_ble_eq_true rfl) (Nat.le_of_ble_eq_true rfl) (Nat.le_of_ble_eq_true rfl) rfl hl.1 rfl (Nat.le_of_ble_eq_true rfl) dX12_chorus_11 (fun H locs X => ?_)
  refine lv_if_ne (tgt := 23) C.1.1 C.1.2.1 dX12_chorus_14 (by decide) (fun h_z => ?_) (fun h_z => ?_)
  · rw [if_neg h_z] at hF
    exact bX12_chorus_23 C O X (lv_sub hl [0, 1] rfl) hF
  · rw [if_pos h_z] at hF
    exact bX12_chorus_17 C O X (lv_sub hl [0] rfl) hF
noncomputable def fX12_chorus (N : Nat) (x1 : Int32) (S : gS) : Option (Int32 × gS) := fX12_chorus_b0 N x1 S
theorem kX12_chorus {l : Launch} {D : va_G} {g : Nat → Nat} {cI cS : ClassId} {sa : Nat → Nat → Option Nat} {Am : (Nat → Prop) → State → Heap → Prop} (O : gO (mcell g cI cS sa) mord g) (P : gAm Am) (N : Nat) (x1 : Int32) (S : gS) (o : Int32 × gS) (hF : fX12_chorus N x1 S = some o) : gM l yX12_chorus cX12_chorus 6 ((some .int)) 2 D (mtys cI cS) (mcell g cI cS sa) mord g Am [.ref (g 99), .int x1] S (some (.int o.1)) o.2 :=
  gM_of O P (by decide) (Nat.le_of_ble_eq_true rfl) (fun p e s m args below meth c ls C X hl => bX12_chorus_0 C O X (lv_sub hl [0, 1] rfl) hF)
-- often
noncomputable def fX12_often_b84 (N : Nat) (x3 : Int32) (S : gS) : Option (Int32 × gS) := bnd (fX12_unpack N 46 0 S) fun q1 => (some (x3, q1.2))
theorem bX12_often_84 {N : Nat} {x3 : Int32} {S : gS} {H : Heap} {locs : List Loc} {ls : Array Slot} {o : Int32 × gS} (C : gC p s m args meth c cX12_often 5 RX12 ((some .int)) D (mtys cI cS) mord g Am) (O : gO (mcell g cI cS sa) mord g) (X : gX D (mcell g cI cS sa) mord g S s H locs) (hl : lv_has ls 5 [(0, .ref (g 99)), (3, .int x3)]) (hF : fX12_often_b84 N x3 S = some o) : W p l e (rmd 2) s m args below meth c H locs 0 0 (gE below args s D (mtys cI cS) (mcell g cI cS sa) mord g (some (.int o.1)) o.2) (F0 m 84 ls []) := by
  unfold fX12_often_b84 at hF
  refine lv_aload_n C.1.1 C.1.2.1 dX12_often_84 rfl (lv_at hl 0 rfl) ?_
  refine lv_aload_n C.1.1 C.1.2.1 dX12_often_85 rfl (lv_at hl 0 rfl) ?_
  refine m_g46 C X dX12_often_86 ?_
  refine lv_iconst (v := 0) C.1.1 C.1.2.1 dX12_often_89 (by decide) ?_
  obtain ⟨q1, hq1, hF⟩ := bnd_some hF
  refine m_callV C X vX12_unpack rfl (kX12_unpack O C.2.2.2.2.1 N 46 0 (rfl : mI 46 = true) S q1 hq1) (Nat.le_of_ble_eq_true rfl) (Nat.le_of_ble_eq_true rfl) (Nat.le_of_ble_eq_true rfl) (Nat.le_of_ble_eq_true rfl) rfl hl.1 rfl (Nat.le_of_ble_eq_true rfl) dX12_often_90 (fun H locs X => ?_)
  refine lv_iload_n C.1.1 C.1.2.1 dX12_often_93 rfl (lv_at hl 1 rfl) ?_
  cases hF
  exact g_iret C X dX12_often_94
noncomputable def fX12_often_b57 (N : Nat) (r51 : Int32 → Int32 → Int32 → Int32 → gS → Option (Int32 × gS)) (x1 : Int32) (x2 : Int32) (x3 : Int32) (x4 : Int32) (S : gS) : Option (Int32 × gS) := bnd (fX12_drippingNow N  S) fun q1 => (lt (sU q1.2 99 37 (((q1.2 99 37) + 1 : Int32))) fun S2 => (r51 x1 x2 ((x3 + ((((q1.1 >>> (x1 &&& 31) : Int32)) &&& 1 : Int32)) : Int32)) ((x4 + 1 : Int32)) S2))
theorem bX12_often_57 {N : Nat} {r51 : Int32 → Int32 → Int32 → Int32 → gS → Option (Int32 × gS)} {x1 : Int32} {x2 : Int32} {x3 : Int32} {x4 : Int32} {S : gS} {H : Heap} {locs : List Loc} {ls : Array Slot} {o : Int32 × gS} (C : gC p s m args meth c cX12_often 5 RX12 ((some .int)) D (mtys cI cS) mord g Am) (O : gO (mcell g cI cS sa) mord g) (K51 : ∀ (x1 : Int32) (x2 : Int32) (x3 : Int32) (x4 : Int32) (S : gS) (H : Heap) (locs : List Loc) (ls : Array Slot), gX D (mcell g cI cS sa) mord g S s H locs → lv_has ls 5 [(0, .ref (g 99)), (1, .int x1), (2, .int x2), (3, .int x3), (4, .int x4)] → r51 x1 x2 x3 x4 S = some o → W p l e (rmd 2) s m args below meth c H locs 0 0 (gE below args s D (mtys cI cS) (mcell g cI cS sa) mord g (some (.int o.1)) o.2) (F0 m 51 ls [])) (X : gX D (mcell g cI cS sa) mord g S s H locs) (hl : lv_has ls 5 [(0, .ref (g 99)), (1, .int x1), (2, .int x2), (3, .int x3), (4, .int x4)]) (hF : fX12_often_b57 N r51 x1 x2 x3 x4 S = some o) : W p l e (rmd 2) s m args below meth c H locs 0 0 (gE below args s D (mtys cI cS) (mcell g cI cS sa) mord g (some (.int o.1)) o.2) (F0 m 57 ls []) := by
  unfold fX12_often_b57 at hF
  refine lv_iload_n C.1.1 C.1.2.1 dX12_often_57 rfl (lv_at hl 3 rfl) ?_
  refine lv_aload_n C.1.1 C.1.2.1 dX12_often_58 rfl (lv_at hl 0 rfl) ?_
  obtain ⟨q1, hq1, hF⟩ := bnd_some hF
  refine m_callVi C X vX12_drippingNow rfl (kX12_drippingNow O C.2.2.2.2.1 N   S q1 hq1) (Nat.le_of_ble_eq_true rfl) (Nat.le_of_ble_eq_true rfl) (Nat.le_of_ble_eq_true rfl) (Nat.le_of_ble_eq_true rfl) rfl hl.1 rfl (Nat.le_of_ble_eq_true rfl) dX12_often_59 (fun H locs X => ?_)
  refine lv_iload_n C.1.1 C.1.2.1 dX12_often_62 rfl (lv_at hl 1 rfl) ?_
  refine lv_ishr C.1.1 C.1.2.1 dX12_often_63 ?_
  refine lv_iconst (v := 1) C.1.1 C.1.2.1 dX12_often_64 (by decide) ?_
  refine lv_iand C.1.1 C.1.2.1 dX12_often_65 ?_
  refine lv_iadd C.1.1 C.1.2.1 dX12_often_66 ?_
  refine lv_istore_n (lv' := [(3, .int ((x3 + ((((q1.1 >>> (x1 &&& 31) : Int32)) &&& 1 : Int32)) : Int32))), (0, .ref (g 99)), (1, .int x1), (2, .int x2), (4, .int x4)]) C.1.1 C.1.2.1 dX12_often_67 rfl hl (by decide) rfl (fun ls hl => ?_)
  refine lv_aload_n C.1.1 C.1.2.1 dX12_often_68 rfl (lv_at hl 1 rfl) ?_
  refine lv_dup C.1.1 C.1.2.1 dX12_often_69 rfl ?_
  refine m_g37 C X dX12_often_70 ?_
  refine lv_iconst (v := 1) C.1.1 C.1.2.1 dX12_often_73 (by decide) ?_
  refine lv_iadd C.1.1 C.1.2.1 dX12_often_74 ?_
  obtain ⟨S2, eS2, hF⟩ := lt_some hF
  refine m_p37 C O X eS2 dX12_often_75 (fun H locs X => ?_)
  refine lv_iinc (v := (x4 + 1 : Int32)) (lv' := [(4, .int ((x4 + 1 : Int32))), (3, .int ((x3 + ((((q1.1 >>> (x1 &&& 31) : Int32)) &&& 1 : Int32)) : Int32))), (0, .ref (g 99)), (1, .int x1), (2, .int x2)]) C.1.1 C.1.2.1 dX12_often_78 hl (k := 4) rfl rfl (by decide) rfl (fun ls hl => ?_)
  refine lv_goto (tgt := 51) C.1.1 C.1.2.1 dX12_often_81 (by decide) ?_
  exact K51 _ _ _ _ _ _ _ _ X (lv_sub hl [2, 3, 4, 1, 0] rfl) hF
noncomputable def fX12_often_b51 (N : Nat) (r51 : Int32 → Int32 → Int32 → Int32 → gS → Option (Int32 × gS)) (x1 : Int32) (x2 : Int32) (x3 : Int32) (x4 : Int32) (S : gS) : Option (Int32 × gS) := if x2 ≤ x4 then fX12_often_b84 N x3 S else fX12_often_b57 N r51 x1 x2 x3 x4 S
theorem bX12_often_51 {N : Nat} {r51 : Int32 → Int32 → Int32 → Int32 → gS → Option (Int32 × gS)} {x1 : Int32} {x2 : Int32} {x3 : Int32} {x4 : Int32} {S : gS} {H : Heap} {locs : List Loc} {ls : Array Slot} {o : Int32 × gS} (C : gC p s m args meth c cX12_often 5 RX12 ((some .int)) D (mtys cI cS) mord g Am) (O : gO (mcell g cI cS sa) mord g) (K51 : ∀ (x1 : Int32) (x2 : Int32) (x3 : Int32) (x4 : Int32) (S : gS) (H : Heap) (locs : List Loc) (ls : Array Slot), gX D (mcell g cI cS sa) mord g S s H locs → lv_has ls 5 [(0, .ref (g 99)), (1, .int x1), (2, .int x2), (3, .int x3), (4, .int x4)] → r51 x1 x2 x3 x4 S = some o → W p l e (rmd 2) s m args below meth c H locs 0 0 (gE below args s D (mtys cI cS) (mcell g cI cS sa) mord g (some (.int o.1)) o.2) (F0 m 51 ls [])) (X : gX D (mcell g cI cS sa) mord g S s H locs) (hl : lv_has ls 5 [(0, .ref (g 99)), (1, .int x1), (2, .int x2), (3, .int x3), (4, .int x4)]) (hF : fX12_often_b51 N r51 x1 x2 x3 x4 S = some o) : W p l e (rmd 2) s m args below meth c H locs 0 0 (gE below args s D (mtys cI cS) (mcell g cI cS sa) mord g (some (.int o.1)) o.2) (F0 m 51 ls []) := by
  unfold fX12_often_b51 at hF
  refine lv_iload C.1.1 C.1.2.1 dX12_often_51 (lv_at hl 4 rfl) ?_
  refine lv_iload_n C.1.1 C.1.2.1 dX12_often_53 rfl (lv_at hl 2 rfl) ?_
  refine lv_icmp_ge (tgt := 84) C.1.1 C.1.2.1 dX12_often_54 (by decide) (fun h_z => ?_) (fun h_z => ?_)
  · rw [if_pos h_z] at hF
    exact bX12_often_84 C O X (lv_sub hl [0, 3] rfl) hF
  · rw [if_neg h_z] at hF
    exact bX12_often_57 C O K51 X (lv_sub hl [0, 1, 2, 3, 4] rfl) hF
noncomputable def fX12_often_h51 (N : Nat) : Nat → Int32 → Int32 → Int32 → Int32 → gS → Option (Int32 × gS)
  | 0, _, _, _, _, _ => none
  | n + 1, x1, x2, x3, x4, S => fX12_often_b51 N (fX12_often_h51 N n) x1 x2 x3 x4 S
theorem hX12_often_51 {N : Nat} {o : Int32 × gS} (C : gC p s m args meth c cX12_often 5 RX12 ((some .int)) D (mtys cI cS) mord g Am) (O : gO (mcell g cI cS sa) mord g) : ∀ (n : Nat) (x1 : Int32) (x2 : Int32) (x3 : Int32) (x4 : Int32) (S : gS) (H : Heap) (locs : List Loc) (ls : Array Slot), gX D (mcell g cI cS sa) mord g S s H locs → lv_has ls 5 [(0, .ref (g 99)), (1, .int x1), (2, .int x2), (3, .int x3), (4, .int x4)] → fX12_often_h51 N n x1 x2 x3 x4 S = some o → W p l e (rmd 2) s m args below meth c H locs 0 0 (gE below args s D (mtys cI cS) (mcell g cI cS sa) mord g (some (.int o.1)) o.2) (F0 m 51 ls []) := by
  intro n
  induction n with
  | zero =>
    intro x1 x2 x3 x4 S H locs ls X hl hF
    exact absurd (show (none : Option (Int32 × gS)) = some o from hF) (by simp)
  | succ n ih =>
    intro x1 x2 x3 x4 S H locs ls X hl hF
    have hF : fX12_often_b51 N (fX12_often_h51 N n) x1 x2 x3 x4 S = some o := hF
    exact bX12_often_51 C O ih X hl hF
noncomputable def fX12_often_b37 (N : Nat) (x1 : Int32) (x2 : Int32) (S : gS) : Option (Int32 × gS) := bnd (fX12_pack N 46 0 S) fun q1 => (fX12_often_h51 N N x1 x2 0 0 q1.2)
theorem bX12_often_37 {N : Nat} {x1 : Int32} {x2 : Int32} {S : gS} {H : Heap} {locs : List Loc} {ls : Array Slot} {o : Int32 × gS} (C : gC p s m args meth c cX12_often 5 RX12 ((some .int)) D (mtys cI cS) mord g Am) (O : gO (mcell g cI cS sa) mord g) (X : gX D (mcell g cI cS sa) mord g S s H locs) (hl : lv_has ls 5 [(0, .ref (g 99)), (1, .int x1), (2, .int x2)]) (hF : fX12_often_b37 N x1 x2 S = some o) : W p l e (rmd 2) s m args below meth c H locs 0 0 (gE below args s D (mtys cI cS) (mcell g cI cS sa) mord g (some (.int o.1)) o.2) (F0 m 37 ls []) := by
  unfold fX12_often_b37 at hF
  refine lv_aload_n C.1.1 C.1.2.1 dX12_often_37 rfl (lv_at hl 0 rfl) ?_
  refine lv_aload_n C.1.1 C.1.2.1 dX12_often_38 rfl (lv_at hl 0 rfl) ?_
  refine m_g46 C X dX12_often_39 ?_
  refine lv_iconst (v := 0) C.1.1 C.1.2.1 dX12_often_42 (by decide) ?_
  obtain ⟨q1, hq1, hF⟩ := bnd_some hF
  refine m_callV C X vX12_pack rfl (kX12_pack O C.2.2.2.2.1 N 46 0 (rfl : mI 46 = true) S q1 hq1) (Nat.le_of_ble_eq_true rfl) (Nat.le_of_ble_eq_true rfl) (Nat.le_of_ble_eq_true rfl) (Nat.le_of_ble_eq_true rfl) rfl hl.1 rfl (Nat.le_of_ble_eq_true rfl) dX12_often_43 (fun H locs X => ?_)
  refine lv_iconst (v := 0) C.1.1 C.1.2.1 dX12_often_46 (by decide) ?_
  refine lv_istore_n (lv' := [(3, .int 0), (0, .ref (g 99)), (1, .int x1), (2, .int x2)]) C.1.1 C.1.2.1 dX12_often_47 rfl hl (by decide) rfl (fun ls hl => ?_)
  refine lv_iconst (v := 0) C.1.1 C.1.2.1 dX12_often_48 (by decide) ?_
  refine lv_istore (lv' := [(4, .int 0), (3, .int 0), (0, .ref (g 99)), (1, .int x1), (2, .int x2)]) C.1.1 C.1.2.1 dX12_often_49 hl (by decide) rfl (fun ls hl => ?_)
  exact hX12_often_51 C O N _ _ _ _ _ _ _ _ X (lv_sub hl [2, 3, 4, 1, 0] rfl) hF
noncomputable def fX12_often_b31 (N : Nat) (S : gS) : Option (Int32 × gS) := bnd (fX12_fail N 2 S) fun q1 => (some (q1.1, q1.2))
theorem bX12_often_31 {N : Nat} {S : gS} {H : Heap} {locs : List Loc} {ls : Array Slot} {o : Int32 × gS} (C : gC p s m args meth c cX12_often 5 RX12 ((some .int)) D (mtys cI cS) mord g Am) (O : gO (mcell g cI cS sa) mord g) (X : gX D (mcell g cI cS sa) mord g S s H locs) (hl : lv_has ls 5 [(0, .ref (g 99))]) (hF : fX12_often_b31 N S = some o) : W p l e (rmd 2) s m args below meth c H locs 0 0 (gE below args s D (mtys cI cS) (mcell g cI cS sa) mord g (some (.int o.1)) o.2) (F0 m 31 ls []) := by
  unfold fX12_often_b31 at hF
  refine lv_aload_n C.1.1 C.1.2.1 dX12_often_31 rfl (lv_at hl 0 rfl) ?_
  refine lv_iconst (v := 2) C.1.1 C.1.2.1 dX12_often_32 (by decide) ?_
  obtain ⟨q1, hq1, hF⟩ := bnd_some hF
  refine m_callVi C X vX12_fail rfl (kX12_fail O C.2.2.2.2.1 N 2  S q1 hq1) (Nat.le_of_ble_eq_true rfl) (Nat.le_of_ble_eq_true rfl) (Nat.le_of_ble_eq_true rfl) (Nat.le_of_ble_eq_true rfl) rfl hl.1 rfl (Nat.le_of_ble_eq_true rfl) dX12_often_33 (fun H locs X => ?_)
  cases hF
  exact g_iret C X dX12_often_36
noncomputable def fX12_often_b19 (N : Nat) (x1 : Int32) (x2 : Int32) (S : gS) : Option (Int32 × gS) := bnd (fX12_isIn N (Int32.toInt64 x2) 0 60 S) fun q1 => (if q1.1 = 0 then fX12_often_b31 N q1.2 else fX12_often_b37 N x1 x2 q1.2)
theorem bX12_often_19 {N : Nat} {x1 : Int32} {x2 : Int32} {S : gS} {H : Heap} {locs : List Loc} {ls : Array Slot} {o : Int32 × gS} (C : gC p s m args meth c cX12_often 5 RX12 ((some .int)) D (mtys cI cS) mord g Am) (O : gO (mcell g cI cS sa) mord g) (X : gX D (mcell g cI cS sa) mord g S s H locs) (hl : lv_has ls 5 [(0, .ref (g 99)), (1, .int x1), (2, .int x2)]) (hF : fX12_often_b19 N x1 x2 S = some o) : W p l e (rmd 2) s m args below meth c H locs 0 0 (gE below args s D (mtys cI cS) (mcell g cI cS sa) mord g (some (.int o.1)) o.2) (F0 m 19 ls []) := by
  unfold fX12_often_b19 at hF
  refine lv_iload_n C.1.1 C.1.2.1 dX12_often_19 rfl (lv_at hl 2 rfl) ?_
  refine lv_i2l (v := Int32.toInt64 x2) C.1.1 C.1.2.1 dX12_often_20 rfl ?_
  refine lv_lconst (v := 0) C.1.1 C.1.2.1 dX12_often_21 (by decide) ?_
  refine lv_ldc2 C.1.1 C.1.2.1 C.1.2.2.2.1 (C.1.2.2.2.2 _ mKL432) dX12_often_22 ?_
  obtain ⟨q1, hq1, hF⟩ := bnd_some hF
  refine g_callSi C X vX12_isIn (kX12_isIn O C.2.2.2.2.1 N (Int32.toInt64 x2) 0 60  S q1 hq1) (Nat.le_of_ble_eq_true rfl) (Nat.le_of_ble_eq_true rfl) (Nat.le_of_ble_eq_true rfl) (Nat.le_of_ble_eq_true rfl) rfl hl.1 rfl (Nat.le_of_ble_eq_true rfl) dX12_often_25 (fun H locs X => ?_)
  refine lv_if_ne (tgt := 37) C.1.1 C.1.2.1 dX12_often_28 (by decide) (fun h_z => ?_) (fun h_z => ?_)
  · rw [if_neg h_z] at hF
    exact bX12_often_37 C O X (lv_sub hl [0, 1, 2] rfl) hF
  · rw [if_pos h_z] at hF
    exact bX12_often_31 C O X (lv_sub hl [0] rfl) hF
noncomputable def fX12_often_b13 (N : Nat) (S : gS) : Option (Int32 × gS) := bnd (fX12_fail N 1 S) fun q1 => (some (q1.1, q1.2))
theorem bX12_often_13 {N : Nat} {S : gS} {H : Heap} {locs : List Loc} {ls : Array Slot} {o : Int32 × gS} (C : gC p s m args meth c cX12_often 5 RX12 ((some .int)) D (mtys cI cS) mord g Am) (O : gO (mcell g cI cS sa) mord g) (X : gX D (mcell g cI cS sa) mord g S s H locs) (hl : lv_has ls 5 [(0, .ref (g 99))]) (hF : fX12_often_b13 N S = some o) : W p l e (rmd 2) s m args below meth c H locs 0 0 (gE below args s D (mtys cI cS) (mcell g cI cS sa) mord g (some (.int o.1)) o.2) (F0 m 13 ls []) := by
  unfold fX12_often_b13 at hF
  refine lv_aload_n C.1.1 C.1.2.1 dX12_often_13 rfl (lv_at hl 0 rfl) ?_
  refine lv_iconst (v := 1) C.1.1 C.1.2.1 dX12_often_14 (by decide) ?_
  obtain ⟨q1, hq1, hF⟩ := bnd_some hF
  refine m_callVi C X vX12_fail rfl (kX12_fail O C.2.2.2.2.1 N 1  S q1 hq1) (Nat.le_of_ble_eq_true rfl) (Nat.le_of_ble_eq_true rfl) (Nat.le_of_ble_eq_true rfl) (Nat.le_of_ble_eq_true rfl) rfl hl.1 rfl (Nat.le_of_ble_eq_true rfl) dX12_often_15 (fun H locs X => ?_)
  cases hF
  exact g_iret C X dX12_often_18
noncomputable def fX12_often_b0 (N : Nat) (x1 : Int32) (x2 : Int32) (S : gS) : Option (Int32 × gS) := lt (sU S 99 4 0) fun S1 => (bnd (fX12_isGrotto N x1 S1) fun q1 => (if q1.1 = 0 then fX12_often_b13 N q1.2 else fX12_often_b19 N x1 x2 q1.2))
theorem bX12_often_0 {N : Nat} {x1 : Int32} {x2 : Int32} {S : gS} {H : Heap} {locs : List Loc} {ls : Array Slot} {o : Int32 × gS} (C : gC p s m args meth c cX12_often 5 RX12 ((some .int)) D (mtys cI cS) mord g Am) (O : gO (mcell g cI cS sa) mord g) (X : gX D (mcell g cI cS sa) mord g S s H locs) (hl : lv_has ls 5 [(0, .ref (g 99)), (1, .int x1), (2, .int x2)]) (hF : fX12_often_b0 N x1 x2 S = some o) : W p l e (rmd 2) s m args below meth c H locs 0 0 (gE below args s D (mtys cI cS) (mcell g cI cS sa) mord g (some (.int o.1)) o.2) (F0 m 0 ls []) := by
  unfold fX12_often_b0 at hF
  refine lv_aload_n C.1.1 C.1.2.1 dX12_often_0 rfl (lv_at hl 0 rfl) ?_
  refine lv_iconst (v := 0) C.1.1 C.1.2.1 dX12_often_1 (by decide) ?_
  obtain ⟨S1, eS1, hF⟩ := lt_some hF
  refine m_p4 C O X eS1 dX12_often_2 (fun H locs X => ?_)
  refine lv_aload_n C.1.1 C.1.2.1 dX12_often_5 rfl (lv_at hl 0 rfl) ?_
  refine lv_iload_n C.1.1 C.1.2.1 dX12_often_6 rfl (lv_at hl 1 rfl) ?_
  obtain ⟨q1, hq1, hF⟩ := bnd_some hF
  refine m_callVi C X vX12_isGrotto rfl (kX12_isGrotto O C.2.2.2.2.1 N x1  S1 q1 hq1) (Nat.le_of_ble_eq_true rfl) (Nat.le_of_ble_eq_true rfl) (Nat.le_of_ble_eq_true rfl) (Nat.le_of_ble_eq_true rfl) rfl hl.1 rfl (Nat.le_of_ble_eq_true rfl) dX12_often_7 (fun H locs X => ?_)
  refine lv_if_ne (tgt := 19) C.1.1 C.1.2.1 dX12_often_10 (by decide) (fun h_z => ?_) (fun h_z => ?_)
  · rw [if_neg h_z] at hF
    exact bX12_often_19 C O X (lv_sub hl [0, 1, 2] rfl) hF
  · rw [if_pos h_z] at hF
    exact bX12_often_13 C O X (lv_sub hl [0] rfl) hF
noncomputable def fX12_often (N : Nat) (x1 : Int32) (x2 : Int32) (S : gS) : Option (Int32 × gS) := fX12_often_b0 N x1 x2 S
theorem kX12_often {l : Launch} {D : va_G} {g : Nat → Nat} {cI cS : ClassId} {sa : Nat → Nat → Option Nat} {Am : (Nat → Prop) → State → Heap → Prop} (O : gO (mcell g cI cS sa) mord g) (P : gAm Am) (N : Nat) (x1 : Int32) (x2 : Int32) (S : gS) (o : Int32 × gS) (hF : fX12_often N x1 x2 S = some o) : gM l yX12_often cX12_often 5 ((some .int)) 2 D (mtys cI cS) (mcell g cI cS sa) mord g Am [.ref (g 99), .int x1, .int x2] S (some (.int o.1)) o.2 :=
  gM_of O P (by decide) (Nat.le_of_ble_eq_true rfl) (fun p e s m args below meth c ls C X hl => bX12_often_0 C O X (lv_sub hl [0, 1, 2] rfl) hF)
-- isSome
noncomputable def fX12_isSome_b0 (N : Nat) (x1 : Int32) (S : gS) : Option (Int32 × gS) := bnd (fX12_isIn N (Int32.toInt64 x1) 0 (Int32.toInt64 (((((1 : Int32) <<< ((S 5 0) &&& 31) : Int32)) - 1 : Int32))) S) fun q1 => (chk (zb q1.1) (some (q1.1, q1.2)))
theorem bX12_isSome_0 {N : Nat} {x1 : Int32} {S : gS} {H : Heap} {locs : List Loc} {ls : Array Slot} {o : Int32 × gS} (C : gC p s m args meth c cX12_isSome 2 RX12 ((some .boolean)) D (mtys cI cS) mord g Am) (O : gO (mcell g cI cS sa) mord g) (X : gX D (mcell g cI cS sa) mord g S s H locs) (hl : lv_has ls 2 [(0, .ref (g 99)), (1, .int x1)]) (hF : fX12_isSome_b0 N x1 S = some o) : W p l e (rmd 1) s m args below meth c H locs 0 0 (gE below args s D (mtys cI cS) (mcell g cI cS sa) mord g (some (.int o.1)) o.2) (F0 m 0 ls []) := by
  unfold fX12_isSome_b0 at hF
  refine lv_iload_n C.1.1 C.1.2.1 dX12_isSome_0 rfl (lv_at hl 1 rfl) ?_
  refine lv_i2l (v := Int32.toInt64 x1) C.1.1 C.1.2.1 dX12_isSome_1 rfl ?_
  refine lv_lconst (v := 0) C.1.1 C.1.2.1 dX12_isSome_2 (by decide) ?_
  refine lv_iconst (v := 1) C.1.1 C.1.2.1 dX12_isSome_3 (by decide) ?_
  refine lv_aload_n C.1.1 C.1.2.1 dX12_isSome_4 rfl (lv_at hl 0 rfl) ?_
  refine m_g5 C X dX12_isSome_5 ?_
  refine lv_iconst (v := 0) C.1.1 C.1.2.1 dX12_isSome_8 (by decide) ?_
  refine m_r5 C X (j := 0) (inb_vp (by decide)) (by decide) dX12_isSome_9 ?_
  refine lv_ishl C.1.1 C.1.2.1 dX12_isSome_10 ?_
  refine lv_iconst (v := 1) C.1.1 C.1.2.1 dX12_isSome_11 (by decide) ?_
  refine lv_isub C.1.1 C.1.2.1 dX12_isSome_12 ?_
  refine lv_i2l (v := Int32.toInt64 (((((1 : Int32) <<< ((S 5 0) &&& 31) : Int32)) - 1 : Int32))) C.1.1 C.1.2.1 dX12_isSome_13 rfl ?_
  obtain ⟨q1, hq1, hF⟩ := bnd_some hF
  refine g_callSi C X vX12_isIn (kX12_isIn O C.2.2.2.2.1 N (Int32.toInt64 x1) 0 (Int32.toInt64 (((((1 : Int32) <<< ((S 5 0) &&& 31) : Int32)) - 1 : Int32)))  S q1 hq1) (Nat.le_of_ble_eq_true rfl) (Nat.le_of_ble_eq_true rfl) (Nat.le_of_ble_eq_true rfl) (Nat.le_of_ble_eq_true rfl) rfl hl.1 rfl (Nat.le_of_ble_eq_true rfl) dX12_isSome_14 (fun H locs X => ?_)
  obtain ⟨h_1, hF⟩ := chk_some hF
  cases hF
  exact g_zret C X h_1 dX12_isSome_17
noncomputable def fX12_isSome (N : Nat) (x1 : Int32) (S : gS) : Option (Int32 × gS) := fX12_isSome_b0 N x1 S
theorem kX12_isSome {l : Launch} {D : va_G} {g : Nat → Nat} {cI cS : ClassId} {sa : Nat → Nat → Option Nat} {Am : (Nat → Prop) → State → Heap → Prop} (O : gO (mcell g cI cS sa) mord g) (P : gAm Am) (N : Nat) (x1 : Int32) (S : gS) (o : Int32 × gS) (hF : fX12_isSome N x1 S = some o) : gM l yX12_isSome cX12_isSome 2 ((some .boolean)) 1 D (mtys cI cS) (mcell g cI cS sa) mord g Am [.ref (g 99), .int x1] S (some (.int o.1)) o.2 :=
  gM_of O P (by decide) (Nat.le_of_ble_eq_true rfl) (fun p e s m args below meth c ls C X hl => bX12_isSome_0 C O X (lv_sub hl [0, 1] rfl) hF)
-- together
noncomputable def fX12_together_b98 (N : Nat) (S : gS) : Option (Int32 × gS) := some ((-1), S)
theorem bX12_together_98 {N : Nat} {S : gS} {H : Heap} {locs : List Loc} {ls : Array Slot} {o : Int32 × gS} (C : gC p s m args meth c cX12_together 5 RX12 ((some .int)) D (mtys cI cS) mord g Am) (O : gO (mcell g cI cS sa) mord g) (X : gX D (mcell g cI cS sa) mord g S s H locs) (hl : lv_has ls 5 []) (hF : fX12_together_b98 N S = some o) : W p l e (rmd 2) s m args below meth c H locs 0 0 (gE below args s D (mtys cI cS) (mcell g cI cS sa) mord g (some (.int o.1)) o.2) (F0 m 98 ls []) := by
  unfold fX12_together_b98 at hF
  refine lv_iconst (v := (-1)) C.1.1 C.1.2.1 dX12_together_98 (by decide) ?_
  cases hF
  exact g_iret C X dX12_together_99
noncomputable def fX12_together_b92 (N : Nat) (r21 : Int32 → Int32 → gS → Option (Int32 × gS)) (x1 : Int32) (x2 : Int32) (S : gS) : Option (Int32 × gS) := r21 x1 ((x2 + 1 : Int32)) S
theorem bX12_together_92 {N : Nat} {r21 : Int32 → Int32 → gS → Option (Int32 × gS)} {x1 : Int32} {x2 : Int32} {S : gS} {H : Heap} {locs : List Loc} {ls : Array Slot} {o : Int32 × gS} (C : gC p s m args meth c cX12_together 5 RX12 ((some .int)) D (mtys cI cS) mord g Am) (O : gO (mcell g cI cS sa) mord g) (K21 : ∀ (x1 : Int32) (x2 : Int32) (S : gS) (H : Heap) (locs : List Loc) (ls : Array Slot), gX D (mcell g cI cS sa) mord g S s H locs → lv_has ls 5 [(0, .ref (g 99)), (1, .int x1), (2, .int x2)] → r21 x1 x2 S = some o → W p l e (rmd 2) s m args below meth c H locs 0 0 (gE below args s D (mtys cI cS) (mcell g cI cS sa) mord g (some (.int o.1)) o.2) (F0 m 21 ls [])) (X : gX D (mcell g cI cS sa) mord g S s H locs) (hl : lv_has ls 5 [(0, .ref (g 99)), (1, .int x1), (2, .int x2)]) (hF : fX12_together_b92 N r21 x1 x2 S = some o) : W p l e (rmd 2) s m args below meth c H locs 0 0 (gE below args s D (mtys cI cS) (mcell g cI cS sa) mord g (some (.int o.1)) o.2) (F0 m 92 ls []) := by
  unfold fX12_together_b92 at hF
  refine lv_iinc (v := (x2 + 1 : Int32)) (lv' := [(2, .int ((x2 + 1 : Int32))), (0, .ref (g 99)), (1, .int x1)]) C.1.1 C.1.2.1 dX12_together_92 hl (k := 2) rfl rfl (by decide) rfl (fun ls hl => ?_)
  refine lv_goto (tgt := 21) C.1.1 C.1.2.1 dX12_together_95 (by decide) ?_
  exact K21 _ _ _ _ _ _ X (lv_sub hl [1, 2, 0] rfl) hF
noncomputable def fX12_together_b90 (N : Nat) (x2 : Int32) (S : gS) : Option (Int32 × gS) := some (x2, S)
theorem bX12_together_90 {N : Nat} {x2 : Int32} {S : gS} {H : Heap} {locs : List Loc} {ls : Array Slot} {o : Int32 × gS} (C : gC p s m args meth c cX12_together 5 RX12 ((some .int)) D (mtys cI cS) mord g Am) (O : gO (mcell g cI cS sa) mord g) (X : gX D (mcell g cI cS sa) mord g S s H locs) (hl : lv_has ls 5 [(2, .int x2)]) (hF : fX12_together_b90 N x2 S = some o) : W p l e (rmd 2) s m args below meth c H locs 0 0 (gE below args s D (mtys cI cS) (mcell g cI cS sa) mord g (some (.int o.1)) o.2) (F0 m 90 ls []) := by
  unfold fX12_together_b90 at hF
  refine lv_iload_n C.1.1 C.1.2.1 dX12_together_90 rfl (lv_at hl 0 rfl) ?_
  cases hF
  exact g_iret C X dX12_together_91
noncomputable def fX12_together_b86 (N : Nat) (r21 : Int32 → Int32 → gS → Option (Int32 × gS)) (x1 : Int32) (x2 : Int32) (x3 : Int32) (S : gS) : Option (Int32 × gS) := if x3 = 0 then fX12_together_b92 N r21 x1 x2 S else fX12_together_b90 N x2 S
theorem bX12_together_86 {N : Nat} {r21 : Int32 → Int32 → gS → Option (Int32 × gS)} {x1 : Int32} {x2 : Int32} {x3 : Int32} {S : gS} {H : Heap} {locs : List Loc} {ls : Array Slot} {o : Int32 × gS} (C : gC p s m args meth c cX12_together 5 RX12 ((some .int)) D (mtys cI cS) mord g Am) (O : gO (mcell g cI cS sa) mord g) (K21 : ∀ (x1 : Int32) (x2 : Int32) (S : gS) (H : Heap) (locs : List Loc) (ls : Array Slot), gX D (mcell g cI cS sa) mord g S s H locs → lv_has ls 5 [(0, .ref (g 99)), (1, .int x1), (2, .int x2)] → r21 x1 x2 S = some o → W p l e (rmd 2) s m args below meth c H locs 0 0 (gE below args s D (mtys cI cS) (mcell g cI cS sa) mord g (some (.int o.1)) o.2) (F0 m 21 ls [])) (X : gX D (mcell g cI cS sa) mord g S s H locs) (hl : lv_has ls 5 [(0, .ref (g 99)), (1, .int x1), (2, .int x2), (3, .int x3)]) (hF : fX12_together_b86 N r21 x1 x2 x3 S = some o) : W p l e (rmd 2) s m args below meth c H locs 0 0 (gE below args s D (mtys cI cS) (mcell g cI cS sa) mord g (some (.int o.1)) o.2) (F0 m 86 ls []) := by
  unfold fX12_together_b86 at hF
  refine lv_iload_n C.1.1 C.1.2.1 dX12_together_86 rfl (lv_at hl 3 rfl) ?_
  refine lv_if_eq (tgt := 92) C.1.1 C.1.2.1 dX12_together_87 (by decide) (fun h_z => ?_) (fun h_z => ?_)
  · rw [if_pos h_z] at hF
    exact bX12_together_92 C O K21 X (lv_sub hl [0, 1, 2] rfl) hF
  · rw [if_neg h_z] at hF
    exact bX12_together_90 C O X (lv_sub hl [2] rfl) hF
noncomputable def fX12_together_b79 (N : Nat) (r21 : Int32 → Int32 → gS → Option (Int32 × gS)) (r33 : Int32 → Int32 → Int32 → Int32 → gS → Option (Int32 × gS)) (x1 : Int32) (x2 : Int32) (x4 : Int32) (t0 : Int32) (S : gS) : Option (Int32 × gS) := r33 x1 x2 t0 ((x4 + 1 : Int32)) S
theorem bX12_together_79 {N : Nat} {r21 : Int32 → Int32 → gS → Option (Int32 × gS)} {r33 : Int32 → Int32 → Int32 → Int32 → gS → Option (Int32 × gS)} {x1 : Int32} {x2 : Int32} {x4 : Int32} {t0 : Int32} {S : gS} {H : Heap} {locs : List Loc} {ls : Array Slot} {o : Int32 × gS} (C : gC p s m args meth c cX12_together 5 RX12 ((some .int)) D (mtys cI cS) mord g Am) (O : gO (mcell g cI cS sa) mord g) (K21 : ∀ (x1 : Int32) (x2 : Int32) (S : gS) (H : Heap) (locs : List Loc) (ls : Array Slot), gX D (mcell g cI cS sa) mord g S s H locs → lv_has ls 5 [(0, .ref (g 99)), (1, .int x1), (2, .int x2)] → r21 x1 x2 S = some o → W p l e (rmd 2) s m args below meth c H locs 0 0 (gE below args s D (mtys cI cS) (mcell g cI cS sa) mord g (some (.int o.1)) o.2) (F0 m 21 ls [])) (K33 : ∀ (x1 : Int32) (x2 : Int32) (x3 : Int32) (x4 : Int32) (S : gS) (H : Heap) (locs : List Loc) (ls : Array Slot), gX D (mcell g cI cS sa) mord g S s H locs → lv_has ls 5 [(0, .ref (g 99)), (1, .int x1), (2, .int x2), (3, .int x3), (4, .int x4)] → r33 x1 x2 x3 x4 S = some o → W p l e (rmd 2) s m args below meth c H locs 0 0 (gE below args s D (mtys cI cS) (mcell g cI cS sa) mord g (some (.int o.1)) o.2) (F0 m 33 ls [])) (X : gX D (mcell g cI cS sa) mord g S s H locs) (hl : lv_has ls 5 [(0, .ref (g 99)), (1, .int x1), (2, .int x2), (4, .int x4)]) (hF : fX12_together_b79 N r21 r33 x1 x2 x4 t0 S = some o) : W p l e (rmd 2) s m args below meth c H locs 0 0 (gE below args s D (mtys cI cS) (mcell g cI cS sa) mord g (some (.int o.1)) o.2) (F0 m 79 ls [.int t0]) := by
  unfold fX12_together_b79 at hF
  refine lv_istore_n (lv' := [(3, .int t0), (0, .ref (g 99)), (1, .int x1), (2, .int x2), (4, .int x4)]) C.1.1 C.1.2.1 dX12_together_79 rfl hl (by decide) rfl (fun ls hl => ?_)
  refine lv_iinc (v := (x4 + 1 : Int32)) (lv' := [(4, .int ((x4 + 1 : Int32))), (3, .int t0), (0, .ref (g 99)), (1, .int x1), (2, .int x2)]) C.1.1 C.1.2.1 dX12_together_80 hl (k := 4) rfl rfl (by decide) rfl (fun ls hl => ?_)
  refine lv_goto (tgt := 33) C.1.1 C.1.2.1 dX12_together_83 (by decide) ?_
  exact K33 _ _ _ _ _ _ _ _ X (lv_sub hl [2, 3, 4, 1, 0] rfl) hF
noncomputable def fX12_together_b78 (N : Nat) (r21 : Int32 → Int32 → gS → Option (Int32 × gS)) (r33 : Int32 → Int32 → Int32 → Int32 → gS → Option (Int32 × gS)) (x1 : Int32) (x2 : Int32) (x4 : Int32) (S : gS) : Option (Int32 × gS) := fX12_together_b79 N r21 r33 x1 x2 x4 0 S
theorem bX12_together_78 {N : Nat} {r21 : Int32 → Int32 → gS → Option (Int32 × gS)} {r33 : Int32 → Int32 → Int32 → Int32 → gS → Option (Int32 × gS)} {x1 : Int32} {x2 : Int32} {x4 : Int32} {S : gS} {H : Heap} {locs : List Loc} {ls : Array Slot} {o : Int32 × gS} (C : gC p s m args meth c cX12_together 5 RX12 ((some .int)) D (mtys cI cS) mord g Am) (O : gO (mcell g cI cS sa) mord g) (K21 : ∀ (x1 : Int32) (x2 : Int32) (S : gS) (H : Heap) (locs : List Loc) (ls : Array Slot), gX D (mcell g cI cS sa) mord g S s H locs → lv_has ls 5 [(0, .ref (g 99)), (1, .int x1), (2, .int x2)] → r21 x1 x2 S = some o → W p l e (rmd 2) s m args below meth c H locs 0 0 (gE below args s D (mtys cI cS) (mcell g cI cS sa) mord g (some (.int o.1)) o.2) (F0 m 21 ls [])) (K33 : ∀ (x1 : Int32) (x2 : Int32) (x3 : Int32) (x4 : Int32) (S : gS) (H : Heap) (locs : List Loc) (ls : Array Slot), gX D (mcell g cI cS sa) mord g S s H locs → lv_has ls 5 [(0, .ref (g 99)), (1, .int x1), (2, .int x2), (3, .int x3), (4, .int x4)] → r33 x1 x2 x3 x4 S = some o → W p l e (rmd 2) s m args below meth c H locs 0 0 (gE below args s D (mtys cI cS) (mcell g cI cS sa) mord g (some (.int o.1)) o.2) (F0 m 33 ls [])) (X : gX D (mcell g cI cS sa) mord g S s H locs) (hl : lv_has ls 5 [(0, .ref (g 99)), (1, .int x1), (2, .int x2), (4, .int x4)]) (hF : fX12_together_b78 N r21 r33 x1 x2 x4 S = some o) : W p l e (rmd 2) s m args below meth c H locs 0 0 (gE below args s D (mtys cI cS) (mcell g cI cS sa) mord g (some (.int o.1)) o.2) (F0 m 78 ls []) := by
  unfold fX12_together_b78 at hF
  refine lv_iconst (v := 0) C.1.1 C.1.2.1 dX12_together_78 (by decide) ?_
  exact bX12_together_79 C O K21 K33 X (lv_sub hl [0, 1, 2, 3] rfl) hF
noncomputable def fX12_together_b74 (N : Nat) (r21 : Int32 → Int32 → gS → Option (Int32 × gS)) (r33 : Int32 → Int32 → Int32 → Int32 → gS → Option (Int32 × gS)) (x1 : Int32) (x2 : Int32) (x4 : Int32) (S : gS) : Option (Int32 × gS) := fX12_together_b79 N r21 r33 x1 x2 x4 1 S
theorem bX12_together_74 {N : Nat} {r21 : Int32 → Int32 → gS → Option (Int32 × gS)} {r33 : Int32 → Int32 → Int32 → Int32 → gS → Option (Int32 × gS)} {x1 : Int32} {x2 : Int32} {x4 : Int32} {S : gS} {H : Heap} {locs : List Loc} {ls : Array Slot} {o : Int32 × gS} (C : gC p s m args meth c cX12_together 5 RX12 ((some .int)) D (mtys cI cS) mord g Am) (O : gO (mcell g cI cS sa) mord g) (K21 : ∀ (x1 : Int32) (x2 : Int32) (S : gS) (H : Heap) (locs : List Loc) (ls : Array Slot), gX D (mcell g cI cS sa) mord g S s H locs → lv_has ls 5 [(0, .ref (g 99)), (1, .int x1), (2, .int x2)] → r21 x1 x2 S = some o → W p l e (rmd 2) s m args below meth c H locs 0 0 (gE below args s D (mtys cI cS) (mcell g cI cS sa) mord g (some (.int o.1)) o.2) (F0 m 21 ls [])) (K33 : ∀ (x1 : Int32) (x2 : Int32) (x3 : Int32) (x4 : Int32) (S : gS) (H : Heap) (locs : List Loc) (ls : Array Slot), gX D (mcell g cI cS sa) mord g S s H locs → lv_has ls 5 [(0, .ref (g 99)), (1, .int x1), (2, .int x2), (3, .int x3), (4, .int x4)] → r33 x1 x2 x3 x4 S = some o → W p l e (rmd 2) s m args below meth c H locs 0 0 (gE below args s D (mtys cI cS) (mcell g cI cS sa) mord g (some (.int o.1)) o.2) (F0 m 33 ls [])) (X : gX D (mcell g cI cS sa) mord g S s H locs) (hl : lv_has ls 5 [(0, .ref (g 99)), (1, .int x1), (2, .int x2), (4, .int x4)]) (hF : fX12_together_b74 N r21 r33 x1 x2 x4 S = some o) : W p l e (rmd 2) s m args below meth c H locs 0 0 (gE below args s D (mtys cI cS) (mcell g cI cS sa) mord g (some (.int o.1)) o.2) (F0 m 74 ls []) := by
  unfold fX12_together_b74 at hF
  refine lv_iconst (v := 1) C.1.1 C.1.2.1 dX12_together_74 (by decide) ?_
  refine lv_goto (tgt := 79) C.1.1 C.1.2.1 dX12_together_75 (by decide) ?_
  exact bX12_together_79 C O K21 K33 X (lv_sub hl [0, 1, 2, 3] rfl) hF
noncomputable def fX12_together_b57 (N : Nat) (r21 : Int32 → Int32 → gS → Option (Int32 × gS)) (r33 : Int32 → Int32 → Int32 → Int32 → gS → Option (Int32 × gS)) (x1 : Int32) (x2 : Int32) (x4 : Int32) (S : gS) : Option (Int32 × gS) := bnd (fX12_comesAt N x4 (((((S 99 37) + x2 : Int32)) - 1 : Int32)) S) fun q1 => (if q1.1 = 0 then fX12_together_b78 N r21 r33 x1 x2 x4 q1.2 else fX12_together_b74 N r21 r33 x1 x2 x4 q1.2)
theorem bX12_together_57 {N : Nat} {r21 : Int32 → Int32 → gS → Option (Int32 × gS)} {r33 : Int32 → Int32 → Int32 → Int32 → gS → Option (Int32 × gS)} {x1 : Int32} {x2 : Int32} {x4 : Int32} {S : gS} {H : Heap} {locs : List Loc} {ls : Array Slot} {o : Int32 × gS} (C : gC p s m args meth c cX12_together 5 RX12 ((some .int)) D (mtys cI cS) mord g Am) (O : gO (mcell g cI cS sa) mord g) (K21 : ∀ (x1 : Int32) (x2 : Int32) (S : gS) (H : Heap) (locs : List Loc) (ls : Array Slot), gX D (mcell g cI cS sa) mord g S s H locs → lv_has ls 5 [(0, .ref (g 99)), (1, .int x1), (2, .int x2)] → r21 x1 x2 S = some o → W p l e (rmd 2) s m args below meth c H locs 0 0 (gE below args s D (mtys cI cS) (mcell g cI cS sa) mord g (some (.int o.1)) o.2) (F0 m 21 ls [])) (K33 : ∀ (x1 : Int32) (x2 : Int32) (x3 : Int32) (x4 : Int32) (S : gS) (H : Heap) (locs : List Loc) (ls : Array Slot), gX D (mcell g cI cS sa) mord g S s H locs → lv_has ls 5 [(0, .ref (g 99)), (1, .int x1), (2, .int x2), (3, .int x3), (4, .int x4)] → r33 x1 x2 x3 x4 S = some o → W p l e (rmd 2) s m args below meth c H locs 0 0 (gE below args s D (mtys cI cS) (mcell g cI cS sa) mord g (some (.int o.1)) o.2) (F0 m 33 ls [])) (X : gX D (mcell g cI cS sa) mord g S s H locs) (hl : lv_has ls 5 [(0, .ref (g 99)), (1, .int x1), (2, .int x2), (4, .int x4)]) (hF : fX12_together_b57 N r21 r33 x1 x2 x4 S = some o) : W p l e (rmd 2) s m args below meth c H locs 0 0 (gE below args s D (mtys cI cS) (mcell g cI cS sa) mord g (some (.int o.1)) o.2) (F0 m 57 ls []) := by
  unfold fX12_together_b57 at hF
  refine lv_aload_n C.1.1 C.1.2.1 dX12_together_57 rfl (lv_at hl 0 rfl) ?_
  refine lv_iload C.1.1 C.1.2.1 dX12_together_58 (lv_at hl 3 rfl) ?_
  refine lv_aload_n C.1.1 C.1.2.1 dX12_together_60 rfl (lv_at hl 0 rfl) ?_
  refine m_g37 C X dX12_together_61 ?_
  refine lv_iload_n C.1.1 C.1.2.1 dX12_together_64 rfl (lv_at hl 2 rfl) ?_
  refine lv_iadd C.1.1 C.1.2.1 dX12_together_65 ?_
  refine lv_iconst (v := 1) C.1.1 C.1.2.1 dX12_together_66 (by decide) ?_
  refine lv_isub C.1.1 C.1.2.1 dX12_together_67 ?_
  obtain ⟨q1, hq1, hF⟩ := bnd_some hF
  refine m_callVi C X vX12_comesAt rfl (kX12_comesAt O C.2.2.2.2.1 N x4 (((((S 99 37) + x2 : Int32)) - 1 : Int32))  S q1 hq1) (Nat.le_of_ble_eq_true rfl) (Nat.le_of_ble_eq_true rfl) (Nat.le_of_ble_eq_true rfl) (Nat.le_of_ble_eq_true rfl) rfl hl.1 rfl (Nat.le_of_ble_eq_true rfl) dX12_together_68 (fun H locs X => ?_)
  refine lv_if_eq (tgt := 78) C.1.1 C.1.2.1 dX12_together_71 (by decide) (fun h_z => ?_) (fun h_z => ?_)
  · rw [if_pos h_z] at hF
    exact bX12_together_78 C O K21 K33 X (lv_sub hl [0, 1, 2, 3] rfl) hF
  · rw [if_neg h_z] at hF
    exact bX12_together_74 C O K21 K33 X (lv_sub hl [0, 1, 2, 3] rfl) hF
noncomputable def fX12_together_b48 (N : Nat) (r21 : Int32 → Int32 → gS → Option (Int32 × gS)) (r33 : Int32 → Int32 → Int32 → Int32 → gS → Option (Int32 × gS)) (x1 : Int32) (x2 : Int32) (x4 : Int32) (S : gS) : Option (Int32 × gS) := bnd (fX12_isOf N x1 x4 S) fun q1 => (if q1.1 = 0 then fX12_together_b74 N r21 r33 x1 x2 x4 q1.2 else fX12_together_b57 N r21 r33 x1 x2 x4 q1.2)
theorem bX12_together_48 {N : Nat} {r21 : Int32 → Int32 → gS → Option (Int32 × gS)} {r33 : Int32 → Int32 → Int32 → Int32 → gS → Option (Int32 × gS)} {x1 : Int32} {x2 : Int32} {x4 : Int32} {S : gS} {H : Heap} {locs : List Loc} {ls : Array Slot} {o : Int32 × gS} (C : gC p s m args meth c cX12_together 5 RX12 ((some .int)) D (mtys cI cS) mord g Am) (O : gO (mcell g cI cS sa) mord g) (K21 : ∀ (x1 : Int32) (x2 : Int32) (S : gS) (H : Heap) (locs : List Loc) (ls : Array Slot), gX D (mcell g cI cS sa) mord g S s H locs → lv_has ls 5 [(0, .ref (g 99)), (1, .int x1), (2, .int x2)] → r21 x1 x2 S = some o → W p l e (rmd 2) s m args below meth c H locs 0 0 (gE below args s D (mtys cI cS) (mcell g cI cS sa) mord g (some (.int o.1)) o.2) (F0 m 21 ls [])) (K33 : ∀ (x1 : Int32) (x2 : Int32) (x3 : Int32) (x4 : Int32) (S : gS) (H : Heap) (locs : List Loc) (ls : Array Slot), gX D (mcell g cI cS sa) mord g S s H locs → lv_has ls 5 [(0, .ref (g 99)), (1, .int x1), (2, .int x2), (3, .int x3), (4, .int x4)] → r33 x1 x2 x3 x4 S = some o → W p l e (rmd 2) s m args below meth c H locs 0 0 (gE below args s D (mtys cI cS) (mcell g cI cS sa) mord g (some (.int o.1)) o.2) (F0 m 33 ls [])) (X : gX D (mcell g cI cS sa) mord g S s H locs) (hl : lv_has ls 5 [(0, .ref (g 99)), (1, .int x1), (2, .int x2), (4, .int x4)]) (hF : fX12_together_b48 N r21 r33 x1 x2 x4 S = some o) : W p l e (rmd 2) s m args below meth c H locs 0 0 (gE below args s D (mtys cI cS) (mcell g cI cS sa) mord g (some (.int o.1)) o.2) (F0 m 48 ls []) := by
  unfold fX12_together_b48 at hF
  refine lv_iload_n C.1.1 C.1.2.1 dX12_together_48 rfl (lv_at hl 1 rfl) ?_
  refine lv_iload C.1.1 C.1.2.1 dX12_together_49 (lv_at hl 3 rfl) ?_
  obtain ⟨q1, hq1, hF⟩ := bnd_some hF
  refine g_callSi C X vX12_isOf (kX12_isOf O C.2.2.2.2.1 N x1 x4  S q1 hq1) (Nat.le_of_ble_eq_true rfl) (Nat.le_of_ble_eq_true rfl) (Nat.le_of_ble_eq_true rfl) (Nat.le_of_ble_eq_true rfl) rfl hl.1 rfl (Nat.le_of_ble_eq_true rfl) dX12_together_51 (fun H locs X => ?_)
  refine lv_if_eq (tgt := 74) C.1.1 C.1.2.1 dX12_together_54 (by decide) (fun h_z => ?_) (fun h_z => ?_)
  · rw [if_pos h_z] at hF
    exact bX12_together_74 C O K21 K33 X (lv_sub hl [0, 1, 2, 3] rfl) hF
  · rw [if_neg h_z] at hF
    exact bX12_together_57 C O K21 K33 X (lv_sub hl [0, 1, 2, 3] rfl) hF
noncomputable def fX12_together_b44 (N : Nat) (r21 : Int32 → Int32 → gS → Option (Int32 × gS)) (r33 : Int32 → Int32 → Int32 → Int32 → gS → Option (Int32 × gS)) (x1 : Int32) (x2 : Int32) (x3 : Int32) (x4 : Int32) (S : gS) : Option (Int32 × gS) := if x3 = 0 then fX12_together_b86 N r21 x1 x2 x3 S else fX12_together_b48 N r21 r33 x1 x2 x4 S
theorem bX12_together_44 {N : Nat} {r21 : Int32 → Int32 → gS → Option (Int32 × gS)} {r33 : Int32 → Int32 → Int32 → Int32 → gS → Option (Int32 × gS)} {x1 : Int32} {x2 : Int32} {x3 : Int32} {x4 : Int32} {S : gS} {H : Heap} {locs : List Loc} {ls : Array Slot} {o : Int32 × gS} (C : gC p s m args meth c cX12_together 5 RX12 ((some .int)) D (mtys cI cS) mord g Am) (O : gO (mcell g cI cS sa) mord g) (K21 : ∀ (x1 : Int32) (x2 : Int32) (S : gS) (H : Heap) (locs : List Loc) (ls : Array Slot), gX D (mcell g cI cS sa) mord g S s H locs → lv_has ls 5 [(0, .ref (g 99)), (1, .int x1), (2, .int x2)] → r21 x1 x2 S = some o → W p l e (rmd 2) s m args below meth c H locs 0 0 (gE below args s D (mtys cI cS) (mcell g cI cS sa) mord g (some (.int o.1)) o.2) (F0 m 21 ls [])) (K33 : ∀ (x1 : Int32) (x2 : Int32) (x3 : Int32) (x4 : Int32) (S : gS) (H : Heap) (locs : List Loc) (ls : Array Slot), gX D (mcell g cI cS sa) mord g S s H locs → lv_has ls 5 [(0, .ref (g 99)), (1, .int x1), (2, .int x2), (3, .int x3), (4, .int x4)] → r33 x1 x2 x3 x4 S = some o → W p l e (rmd 2) s m args below meth c H locs 0 0 (gE below args s D (mtys cI cS) (mcell g cI cS sa) mord g (some (.int o.1)) o.2) (F0 m 33 ls [])) (X : gX D (mcell g cI cS sa) mord g S s H locs) (hl : lv_has ls 5 [(0, .ref (g 99)), (1, .int x1), (2, .int x2), (3, .int x3), (4, .int x4)]) (hF : fX12_together_b44 N r21 r33 x1 x2 x3 x4 S = some o) : W p l e (rmd 2) s m args below meth c H locs 0 0 (gE below args s D (mtys cI cS) (mcell g cI cS sa) mord g (some (.int o.1)) o.2) (F0 m 44 ls []) := by
  unfold fX12_together_b44 at hF
  refine lv_iload_n C.1.1 C.1.2.1 dX12_together_44 rfl (lv_at hl 3 rfl) ?_
  refine lv_if_eq (tgt := 86) C.1.1 C.1.2.1 dX12_together_45 (by decide) (fun h_z => ?_) (fun h_z => ?_)
  · rw [if_pos h_z] at hF
    exact bX12_together_86 C O K21 X (lv_sub hl [0, 1, 2, 3] rfl) hF
  · rw [if_neg h_z] at hF
    exact bX12_together_48 C O K21 K33 X (lv_sub hl [0, 1, 2, 4] rfl) hF
noncomputable def fX12_together_b33 (N : Nat) (r21 : Int32 → Int32 → gS → Option (Int32 × gS)) (r33 : Int32 → Int32 → Int32 → Int32 → gS → Option (Int32 × gS)) (x1 : Int32) (x2 : Int32) (x3 : Int32) (x4 : Int32) (S : gS) : Option (Int32 × gS) := if (S 5 0) ≤ x4 then fX12_together_b86 N r21 x1 x2 x3 S else fX12_together_b44 N r21 r33 x1 x2 x3 x4 S
theorem bX12_together_33 {N : Nat} {r21 : Int32 → Int32 → gS → Option (Int32 × gS)} {r33 : Int32 → Int32 → Int32 → Int32 → gS → Option (Int32 × gS)} {x1 : Int32} {x2 : Int32} {x3 : Int32} {x4 : Int32} {S : gS} {H : Heap} {locs : List Loc} {ls : Array Slot} {o : Int32 × gS} (C : gC p s m args meth c cX12_together 5 RX12 ((some .int)) D (mtys cI cS) mord g Am) (O : gO (mcell g cI cS sa) mord g) (K21 : ∀ (x1 : Int32) (x2 : Int32) (S : gS) (H : Heap) (locs : List Loc) (ls : Array Slot), gX D (mcell g cI cS sa) mord g S s H locs → lv_has ls 5 [(0, .ref (g 99)), (1, .int x1), (2, .int x2)] → r21 x1 x2 S = some o → W p l e (rmd 2) s m args below meth c H locs 0 0 (gE below args s D (mtys cI cS) (mcell g cI cS sa) mord g (some (.int o.1)) o.2) (F0 m 21 ls [])) (K33 : ∀ (x1 : Int32) (x2 : Int32) (x3 : Int32) (x4 : Int32) (S : gS) (H : Heap) (locs : List Loc) (ls : Array Slot), gX D (mcell g cI cS sa) mord g S s H locs → lv_has ls 5 [(0, .ref (g 99)), (1, .int x1), (2, .int x2), (3, .int x3), (4, .int x4)] → r33 x1 x2 x3 x4 S = some o → W p l e (rmd 2) s m args below meth c H locs 0 0 (gE below args s D (mtys cI cS) (mcell g cI cS sa) mord g (some (.int o.1)) o.2) (F0 m 33 ls [])) (X : gX D (mcell g cI cS sa) mord g S s H locs) (hl : lv_has ls 5 [(0, .ref (g 99)), (1, .int x1), (2, .int x2), (3, .int x3), (4, .int x4)]) (hF : fX12_together_b33 N r21 r33 x1 x2 x3 x4 S = some o) : W p l e (rmd 2) s m args below meth c H locs 0 0 (gE below args s D (mtys cI cS) (mcell g cI cS sa) mord g (some (.int o.1)) o.2) (F0 m 33 ls []) := by
  unfold fX12_together_b33 at hF
  refine lv_iload C.1.1 C.1.2.1 dX12_together_33 (lv_at hl 4 rfl) ?_
  refine lv_aload_n C.1.1 C.1.2.1 dX12_together_35 rfl (lv_at hl 0 rfl) ?_
  refine m_g5 C X dX12_together_36 ?_
  refine lv_iconst (v := 0) C.1.1 C.1.2.1 dX12_together_39 (by decide) ?_
  refine m_r5 C X (j := 0) (inb_vp (by decide)) (by decide) dX12_together_40 ?_
  refine lv_icmp_ge (tgt := 86) C.1.1 C.1.2.1 dX12_together_41 (by decide) (fun h_z => ?_) (fun h_z => ?_)
  · rw [if_pos h_z] at hF
    exact bX12_together_86 C O K21 X (lv_sub hl [0, 1, 2, 3] rfl) hF
  · rw [if_neg h_z] at hF
    exact bX12_together_44 C O K21 K33 X (lv_sub hl [0, 1, 2, 3, 4] rfl) hF
noncomputable def fX12_together_h33 (N : Nat) (r21 : Int32 → Int32 → gS → Option (Int32 × gS)) : Nat → Int32 → Int32 → Int32 → Int32 → gS → Option (Int32 × gS)
  | 0, _, _, _, _, _ => none
  | n + 1, x1, x2, x3, x4, S => fX12_together_b33 N r21 (fX12_together_h33 N r21 n) x1 x2 x3 x4 S
theorem hX12_together_33 {N : Nat} {r21 : Int32 → Int32 → gS → Option (Int32 × gS)} {o : Int32 × gS} (C : gC p s m args meth c cX12_together 5 RX12 ((some .int)) D (mtys cI cS) mord g Am) (O : gO (mcell g cI cS sa) mord g) (K21 : ∀ (x1 : Int32) (x2 : Int32) (S : gS) (H : Heap) (locs : List Loc) (ls : Array Slot), gX D (mcell g cI cS sa) mord g S s H locs → lv_has ls 5 [(0, .ref (g 99)), (1, .int x1), (2, .int x2)] → r21 x1 x2 S = some o → W p l e (rmd 2) s m args below meth c H locs 0 0 (gE below args s D (mtys cI cS) (mcell g cI cS sa) mord g (some (.int o.1)) o.2) (F0 m 21 ls [])) : ∀ (n : Nat) (x1 : Int32) (x2 : Int32) (x3 : Int32) (x4 : Int32) (S : gS) (H : Heap) (locs : List Loc) (ls : Array Slot), gX D (mcell g cI cS sa) mord g S s H locs → lv_has ls 5 [(0, .ref (g 99)), (1, .int x1), (2, .int x2), (3, .int x3), (4, .int x4)] → fX12_together_h33 N r21 n x1 x2 x3 x4 S = some o → W p l e (rmd 2) s m args below meth c H locs 0 0 (gE below args s D (mtys cI cS) (mcell g cI cS sa) mord g (some (.int o.1)) o.2) (F0 m 33 ls []) := by
  intro n
  induction n with
  | zero =>
    intro x1 x2 x3 x4 S H locs ls X hl hF
    exact absurd (show (none : Option (Int32 × gS)) = some o from hF) (by simp)
  | succ n ih =>
    intro x1 x2 x3 x4 S H locs ls X hl hF
    have hF : fX12_together_b33 N r21 (fX12_together_h33 N r21 n) x1 x2 x3 x4 S = some o := hF
    exact bX12_together_33 C O K21 ih X hl hF
noncomputable def fX12_together_b28 (N : Nat) (r21 : Int32 → Int32 → gS → Option (Int32 × gS)) (x1 : Int32) (x2 : Int32) (S : gS) : Option (Int32 × gS) := fX12_together_h33 N r21 N x1 x2 1 0 S
theorem bX12_together_28 {N : Nat} {r21 : Int32 → Int32 → gS → Option (Int32 × gS)} {x1 : Int32} {x2 : Int32} {S : gS} {H : Heap} {locs : List Loc} {ls : Array Slot} {o : Int32 × gS} (C : gC p s m args meth c cX12_together 5 RX12 ((some .int)) D (mtys cI cS) mord g Am) (O : gO (mcell g cI cS sa) mord g) (K21 : ∀ (x1 : Int32) (x2 : Int32) (S : gS) (H : Heap) (locs : List Loc) (ls : Array Slot), gX D (mcell g cI cS sa) mord g S s H locs → lv_has ls 5 [(0, .ref (g 99)), (1, .int x1), (2, .int x2)] → r21 x1 x2 S = some o → W p l e (rmd 2) s m args below meth c H locs 0 0 (gE below args s D (mtys cI cS) (mcell g cI cS sa) mord g (some (.int o.1)) o.2) (F0 m 21 ls [])) (X : gX D (mcell g cI cS sa) mord g S s H locs) (hl : lv_has ls 5 [(0, .ref (g 99)), (1, .int x1), (2, .int x2)]) (hF : fX12_together_b28 N r21 x1 x2 S = some o) : W p l e (rmd 2) s m args below meth c H locs 0 0 (gE below args s D (mtys cI cS) (mcell g cI cS sa) mord g (some (.int o.1)) o.2) (F0 m 28 ls []) := by
  unfold fX12_together_b28 at hF
  refine lv_iconst (v := 1) C.1.1 C.1.2.1 dX12_together_28 (by decide) ?_
  refine lv_istore_n (lv' := [(3, .int 1), (0, .ref (g 99)), (1, .int x1), (2, .int x2)]) C.1.1 C.1.2.1 dX12_together_29 rfl hl (by decide) rfl (fun ls hl => ?_)
  refine lv_iconst (v := 0) C.1.1 C.1.2.1 dX12_together_30 (by decide) ?_
  refine lv_istore (lv' := [(4, .int 0), (3, .int 1), (0, .ref (g 99)), (1, .int x1), (2, .int x2)]) C.1.1 C.1.2.1 dX12_together_31 hl (by decide) rfl (fun ls hl => ?_)
  exact hX12_together_33 C O K21 N _ _ _ _ _ _ _ _ X (lv_sub hl [2, 3, 4, 1, 0] rfl) hF
noncomputable def fX12_together_b21 (N : Nat) (r21 : Int32 → Int32 → gS → Option (Int32 × gS)) (x1 : Int32) (x2 : Int32) (S : gS) : Option (Int32 × gS) := if 30000 < x2 then fX12_together_b98 N S else fX12_together_b28 N r21 x1 x2 S
theorem bX12_together_21 {N : Nat} {r21 : Int32 → Int32 → gS → Option (Int32 × gS)} {x1 : Int32} {x2 : Int32} {S : gS} {H : Heap} {locs : List Loc} {ls : Array Slot} {o : Int32 × gS} (C : gC p s m args meth c cX12_together 5 RX12 ((some .int)) D (mtys cI cS) mord g Am) (O : gO (mcell g cI cS sa) mord g) (K21 : ∀ (x1 : Int32) (x2 : Int32) (S : gS) (H : Heap) (locs : List Loc) (ls : Array Slot), gX D (mcell g cI cS sa) mord g S s H locs → lv_has ls 5 [(0, .ref (g 99)), (1, .int x1), (2, .int x2)] → r21 x1 x2 S = some o → W p l e (rmd 2) s m args below meth c H locs 0 0 (gE below args s D (mtys cI cS) (mcell g cI cS sa) mord g (some (.int o.1)) o.2) (F0 m 21 ls [])) (X : gX D (mcell g cI cS sa) mord g S s H locs) (hl : lv_has ls 5 [(0, .ref (g 99)), (1, .int x1), (2, .int x2)]) (hF : fX12_together_b21 N r21 x1 x2 S = some o) : W p l e (rmd 2) s m args below meth c H locs 0 0 (gE below args s D (mtys cI cS) (mcell g cI cS sa) mord g (some (.int o.1)) o.2) (F0 m 21 ls []) := by
  unfold fX12_together_b21 at hF
  refine lv_iload_n C.1.1 C.1.2.1 dX12_together_21 rfl (lv_at hl 2 rfl) ?_
  refine lv_sipush (v := 30000) C.1.1 C.1.2.1 dX12_together_22 (by decide) ?_
  refine lv_icmp_gt (tgt := 98) C.1.1 C.1.2.1 dX12_together_25 (by decide) (fun h_z => ?_) (fun h_z => ?_)
  · rw [if_pos h_z] at hF
    exact bX12_together_98 C O X (lv_sub hl [] rfl) hF
  · rw [if_neg h_z] at hF
    exact bX12_together_28 C O K21 X (lv_sub hl [0, 1, 2] rfl) hF
noncomputable def fX12_together_h21 (N : Nat) : Nat → Int32 → Int32 → gS → Option (Int32 × gS)
  | 0, _, _, _ => none
  | n + 1, x1, x2, S => fX12_together_b21 N (fX12_together_h21 N n) x1 x2 S
theorem hX12_together_21 {N : Nat} {o : Int32 × gS} (C : gC p s m args meth c cX12_together 5 RX12 ((some .int)) D (mtys cI cS) mord g Am) (O : gO (mcell g cI cS sa) mord g) : ∀ (n : Nat) (x1 : Int32) (x2 : Int32) (S : gS) (H : Heap) (locs : List Loc) (ls : Array Slot), gX D (mcell g cI cS sa) mord g S s H locs → lv_has ls 5 [(0, .ref (g 99)), (1, .int x1), (2, .int x2)] → fX12_together_h21 N n x1 x2 S = some o → W p l e (rmd 2) s m args below meth c H locs 0 0 (gE below args s D (mtys cI cS) (mcell g cI cS sa) mord g (some (.int o.1)) o.2) (F0 m 21 ls []) := by
  intro n
  induction n with
  | zero =>
    intro x1 x2 S H locs ls X hl hF
    exact absurd (show (none : Option (Int32 × gS)) = some o from hF) (by simp)
  | succ n ih =>
    intro x1 x2 S H locs ls X hl hF
    have hF : fX12_together_b21 N (fX12_together_h21 N n) x1 x2 S = some o := hF
    exact bX12_together_21 C O ih X hl hF
noncomputable def fX12_together_b19 (N : Nat) (x1 : Int32) (S : gS) : Option (Int32 × gS) := fX12_together_h21 N N x1 1 S
theorem bX12_together_19 {N : Nat} {x1 : Int32} {S : gS} {H : Heap} {locs : List Loc} {ls : Array Slot} {o : Int32 × gS} (C : gC p s m args meth c cX12_together 5 RX12 ((some .int)) D (mtys cI cS) mord g Am) (O : gO (mcell g cI cS sa) mord g) (X : gX D (mcell g cI cS sa) mord g S s H locs) (hl : lv_has ls 5 [(0, .ref (g 99)), (1, .int x1)]) (hF : fX12_together_b19 N x1 S = some o) : W p l e (rmd 2) s m args below meth c H locs 0 0 (gE below args s D (mtys cI cS) (mcell g cI cS sa) mord g (some (.int o.1)) o.2) (F0 m 19 ls []) := by
  unfold fX12_together_b19 at hF
  refine lv_iconst (v := 1) C.1.1 C.1.2.1 dX12_together_19 (by decide) ?_
  refine lv_istore_n (lv' := [(2, .int 1), (0, .ref (g 99)), (1, .int x1)]) C.1.1 C.1.2.1 dX12_together_20 rfl hl (by decide) rfl (fun ls hl => ?_)
  exact hX12_together_21 C O N _ _ _ _ _ _ X (lv_sub hl [1, 2, 0] rfl) hF
noncomputable def fX12_together_b13 (N : Nat) (S : gS) : Option (Int32 × gS) := bnd (fX12_fail N 1 S) fun q1 => (some (q1.1, q1.2))
theorem bX12_together_13 {N : Nat} {S : gS} {H : Heap} {locs : List Loc} {ls : Array Slot} {o : Int32 × gS} (C : gC p s m args meth c cX12_together 5 RX12 ((some .int)) D (mtys cI cS) mord g Am) (O : gO (mcell g cI cS sa) mord g) (X : gX D (mcell g cI cS sa) mord g S s H locs) (hl : lv_has ls 5 [(0, .ref (g 99))]) (hF : fX12_together_b13 N S = some o) : W p l e (rmd 2) s m args below meth c H locs 0 0 (gE below args s D (mtys cI cS) (mcell g cI cS sa) mord g (some (.int o.1)) o.2) (F0 m 13 ls []) := by
  unfold fX12_together_b13 at hF
  refine lv_aload_n C.1.1 C.1.2.1 dX12_together_13 rfl (lv_at hl 0 rfl) ?_
  refine lv_iconst (v := 1) C.1.1 C.1.2.1 dX12_together_14 (by decide) ?_
  obtain ⟨q1, hq1, hF⟩ := bnd_some hF
  refine m_callVi C X vX12_fail rfl (kX12_fail O C.2.2.2.2.1 N 1  S q1 hq1) (Nat.le_of_ble_eq_true rfl) (Nat.le_of_ble_eq_true rfl) (Nat.le_of_ble_eq_true rfl) (Nat.le_of_ble_eq_true rfl) rfl hl.1 rfl (Nat.le_of_ble_eq_true rfl) dX12_together_15 (fun H locs X => ?_)
  cases hF
  exact g_iret C X dX12_together_18
noncomputable def fX12_together_b0 (N : Nat) (x1 : Int32) (S : gS) : Option (Int32 × gS) := lt (sU S 99 4 0) fun S1 => (bnd (fX12_isSome N x1 S1) fun q1 => (if q1.1 = 0 then fX12_together_b13 N q1.2 else fX12_together_b19 N x1 q1.2))
theorem bX12_together_0 {N : Nat} {x1 : Int32} {S : gS} {H : Heap} {locs : List Loc} {ls : Array Slot} {o : Int32 × gS} (C : gC p s m args meth c cX12_together 5 RX12 ((some .int)) D (mtys cI cS) mord g Am) (O : gO (mcell g cI cS sa) mord g) (X : gX D (mcell g cI cS sa) mord g S s H locs) (hl : lv_has ls 5 [(0, .ref (g 99)), (1, .int x1)]) (hF : fX12_together_b0 N x1 S = some o) : W p l e (rmd 2) s m args below meth c H locs 0 0 (gE below args s D (mtys cI cS) (mcell g cI cS sa) mord g (some (.int o.1)) o.2) (F0 m 0 ls []) := by
  unfold fX12_together_b0 at hF
  refine lv_aload_n C.1.1 C.1.2.1 dX12_together_0 rfl (lv_at hl 0 rfl) ?_
  refine lv_iconst (v := 0) C.1.1 C.1.2.1 dX12_together_1 (by decide) ?_
  obtain ⟨S1, eS1, hF⟩ := lt_some hF
  refine m_p4 C O X eS1 dX12_together_2 (fun H locs X => ?_)
  refine lv_aload_n C.1.1 C.1.2.1 dX12_together_5 rfl (lv_at hl 0 rfl) ?_
  refine lv_iload_n C.1.1 C.1.2.1 dX12_together_6 rfl (lv_at hl 1 rfl) ?_
  obtain ⟨q1, hq1, hF⟩ := bnd_some hF
  refine m_callVi C X vX12_isSome rfl (kX12_isSome O C.2.2.2.2.1 N x1  S1 q1 hq1) (Nat.le_of_ble_eq_true rfl) (Nat.le_of_ble_eq_true rfl) (Nat.le_of_ble_eq_true rfl) (Nat.le_of_ble_eq_true rfl) rfl hl.1 rfl (Nat.le_of_ble_eq_true rfl) dX12_together_7 (fun H locs X => ?_)
  refine lv_if_ne (tgt := 19) C.1.1 C.1.2.1 dX12_together_10 (by decide) (fun h_z => ?_) (fun h_z => ?_)
  · rw [if_neg h_z] at hF
    exact bX12_together_19 C O X (lv_sub hl [0, 1] rfl) hF
  · rw [if_pos h_z] at hF
    exact bX12_together_13 C O X (lv_sub hl [0] rfl) hF
noncomputable def fX12_together (N : Nat) (x1 : Int32) (S : gS) : Option (Int32 × gS) := fX12_together_b0 N x1 S
theorem kX12_together {l : Launch} {D : va_G} {g : Nat → Nat} {cI cS : ClassId} {sa : Nat → Nat → Option Nat} {Am : (Nat → Prop) → State → Heap → Prop} (O : gO (mcell g cI cS sa) mord g) (P : gAm Am) (N : Nat) (x1 : Int32) (S : gS) (o : Int32 × gS) (hF : fX12_together N x1 S = some o) : gM l yX12_together cX12_together 5 ((some .int)) 2 D (mtys cI cS) (mcell g cI cS sa) mord g Am [.ref (g 99), .int x1] S (some (.int o.1)) o.2 :=
  gM_of O P (by decide) (Nat.le_of_ble_eq_true rfl) (fun p e s m args below meth c ls C X hl => bX12_together_0 C O X (lv_sub hl [0, 1] rfl) hF)
-- rhythm
noncomputable def fX12_rhythm_b69 (N : Nat) (x2 : Int32) (S : gS) : Option (Int32 × gS) := some (x2, S)
theorem bX12_rhythm_69 {N : Nat} {x2 : Int32} {S : gS} {H : Heap} {locs : List Loc} {ls : Array Slot} {o : Int32 × gS} (C : gC p s m args meth c cX12_rhythm 5 RX12 ((some .int)) D (mtys cI cS) mord g Am) (O : gO (mcell g cI cS sa) mord g) (X : gX D (mcell g cI cS sa) mord g S s H locs) (hl : lv_has ls 5 [(2, .int x2)]) (hF : fX12_rhythm_b69 N x2 S = some o) : W p l e (rmd 2) s m args below meth c H locs 0 0 (gE below args s D (mtys cI cS) (mcell g cI cS sa) mord g (some (.int o.1)) o.2) (F0 m 69 ls []) := by
  unfold fX12_rhythm_b69 at hF
  refine lv_iload_n C.1.1 C.1.2.1 dX12_rhythm_69 rfl (lv_at hl 0 rfl) ?_
  cases hF
  exact g_iret C X dX12_rhythm_70
noncomputable def fX12_rhythm_b63 (N : Nat) (r23 : Int32 → Int32 → Int32 → gS → Option (Int32 × gS)) (x1 : Int32) (x2 : Int32) (x3 : Int32) (S : gS) : Option (Int32 × gS) := r23 x1 x2 ((x3 + 1 : Int32)) S
theorem bX12_rhythm_63 {N : Nat} {r23 : Int32 → Int32 → Int32 → gS → Option (Int32 × gS)} {x1 : Int32} {x2 : Int32} {x3 : Int32} {S : gS} {H : Heap} {locs : List Loc} {ls : Array Slot} {o : Int32 × gS} (C : gC p s m args meth c cX12_rhythm 5 RX12 ((some .int)) D (mtys cI cS) mord g Am) (O : gO (mcell g cI cS sa) mord g) (K23 : ∀ (x1 : Int32) (x2 : Int32) (x3 : Int32) (S : gS) (H : Heap) (locs : List Loc) (ls : Array Slot), gX D (mcell g cI cS sa) mord g S s H locs → lv_has ls 5 [(0, .ref (g 99)), (1, .int x1), (2, .int x2), (3, .int x3)] → r23 x1 x2 x3 S = some o → W p l e (rmd 2) s m args below meth c H locs 0 0 (gE below args s D (mtys cI cS) (mcell g cI cS sa) mord g (some (.int o.1)) o.2) (F0 m 23 ls [])) (X : gX D (mcell g cI cS sa) mord g S s H locs) (hl : lv_has ls 5 [(0, .ref (g 99)), (1, .int x1), (2, .int x2), (3, .int x3)]) (hF : fX12_rhythm_b63 N r23 x1 x2 x3 S = some o) : W p l e (rmd 2) s m args below meth c H locs 0 0 (gE below args s D (mtys cI cS) (mcell g cI cS sa) mord g (some (.int o.1)) o.2) (F0 m 63 ls []) := by
  unfold fX12_rhythm_b63 at hF
  refine lv_iinc (v := (x3 + 1 : Int32)) (lv' := [(3, .int ((x3 + 1 : Int32))), (0, .ref (g 99)), (1, .int x1), (2, .int x2)]) C.1.1 C.1.2.1 dX12_rhythm_63 hl (k := 3) rfl rfl (by decide) rfl (fun ls hl => ?_)
  refine lv_goto (tgt := 23) C.1.1 C.1.2.1 dX12_rhythm_66 (by decide) ?_
  exact K23 _ _ _ _ _ _ _ X (lv_sub hl [1, 2, 3, 0] rfl) hF
noncomputable def fX12_rhythm_b55 (N : Nat) (r23 : Int32 → Int32 → Int32 → gS → Option (Int32 × gS)) (r36 : Int32 → Int32 → Int32 → Int32 → gS → Option (Int32 × gS)) (x1 : Int32) (x2 : Int32) (x3 : Int32) (x4 : Int32) (S : gS) : Option (Int32 × gS) := r36 x1 ((x2 + x4 : Int32)) x3 x4 S
theorem bX12_rhythm_55 {N : Nat} {r23 : Int32 → Int32 → Int32 → gS → Option (Int32 × gS)} {r36 : Int32 → Int32 → Int32 → Int32 → gS → Option (Int32 × gS)} {x1 : Int32} {x2 : Int32} {x3 : Int32} {x4 : Int32} {S : gS} {H : Heap} {locs : List Loc} {ls : Array Slot} {o : Int32 × gS} (C : gC p s m args meth c cX12_rhythm 5 RX12 ((some .int)) D (mtys cI cS) mord g Am) (O : gO (mcell g cI cS sa) mord g) (K23 : ∀ (x1 : Int32) (x2 : Int32) (x3 : Int32) (S : gS) (H : Heap) (locs : List Loc) (ls : Array Slot), gX D (mcell g cI cS sa) mord g S s H locs → lv_has ls 5 [(0, .ref (g 99)), (1, .int x1), (2, .int x2), (3, .int x3)] → r23 x1 x2 x3 S = some o → W p l e (rmd 2) s m args below meth c H locs 0 0 (gE below args s D (mtys cI cS) (mcell g cI cS sa) mord g (some (.int o.1)) o.2) (F0 m 23 ls [])) (K36 : ∀ (x1 : Int32) (x2 : Int32) (x3 : Int32) (x4 : Int32) (S : gS) (H : Heap) (locs : List Loc) (ls : Array Slot), gX D (mcell g cI cS sa) mord g S s H locs → lv_has ls 5 [(0, .ref (g 99)), (1, .int x1), (2, .int x2), (3, .int x3), (4, .int x4)] → r36 x1 x2 x3 x4 S = some o → W p l e (rmd 2) s m args below meth c H locs 0 0 (gE below args s D (mtys cI cS) (mcell g cI cS sa) mord g (some (.int o.1)) o.2) (F0 m 36 ls [])) (X : gX D (mcell g cI cS sa) mord g S s H locs) (hl : lv_has ls 5 [(0, .ref (g 99)), (1, .int x1), (2, .int x2), (3, .int x3), (4, .int x4)]) (hF : fX12_rhythm_b55 N r23 r36 x1 x2 x3 x4 S = some o) : W p l e (rmd 2) s m args below meth c H locs 0 0 (gE below args s D (mtys cI cS) (mcell g cI cS sa) mord g (some (.int o.1)) o.2) (F0 m 55 ls []) := by
  unfold fX12_rhythm_b55 at hF
  refine lv_iload_n C.1.1 C.1.2.1 dX12_rhythm_55 rfl (lv_at hl 2 rfl) ?_
  refine lv_iload C.1.1 C.1.2.1 dX12_rhythm_56 (lv_at hl 4 rfl) ?_
  refine lv_iadd C.1.1 C.1.2.1 dX12_rhythm_58 ?_
  refine lv_istore_n (lv' := [(2, .int ((x2 + x4 : Int32))), (0, .ref (g 99)), (1, .int x1), (3, .int x3), (4, .int x4)]) C.1.1 C.1.2.1 dX12_rhythm_59 rfl hl (by decide) rfl (fun ls hl => ?_)
  refine lv_goto (tgt := 36) C.1.1 C.1.2.1 dX12_rhythm_60 (by decide) ?_
  exact K36 _ _ _ _ _ _ _ _ X (lv_sub hl [1, 2, 0, 3, 4] rfl) hF
noncomputable def fX12_rhythm_b44 (N : Nat) (r23 : Int32 → Int32 → Int32 → gS → Option (Int32 × gS)) (r36 : Int32 → Int32 → Int32 → Int32 → gS → Option (Int32 × gS)) (x1 : Int32) (x2 : Int32) (x3 : Int32) (x4 : Int32) (S : gS) : Option (Int32 × gS) := chk (inb x3 (16)) (chk (nz (S 7 (Int32.toNatClampNeg x3))) (if ((x2 - x2 / (S 7 (Int32.toNatClampNeg x3)) * (S 7 (Int32.toNatClampNeg x3)) : Int32)) = 0 then fX12_rhythm_b63 N r23 x1 x2 x3 S else fX12_rhythm_b55 N r23 r36 x1 x2 x3 x4 S))
theorem bX12_rhythm_44 {N : Nat} {r23 : Int32 → Int32 → Int32 → gS → Option (Int32 × gS)} {r36 : Int32 → Int32 → Int32 → Int32 → gS → Option (Int32 × gS)} {x1 : Int32} {x2 : Int32} {x3 : Int32} {x4 : Int32} {S : gS} {H : Heap} {locs : List Loc} {ls : Array Slot} {o : Int32 × gS} (C : gC p s m args meth c cX12_rhythm 5 RX12 ((some .int)) D (mtys cI cS) mord g Am) (O : gO (mcell g cI cS sa) mord g) (K23 : ∀ (x1 : Int32) (x2 : Int32) (x3 : Int32) (S : gS) (H : Heap) (locs : List Loc) (ls : Array Slot), gX D (mcell g cI cS sa) mord g S s H locs → lv_has ls 5 [(0, .ref (g 99)), (1, .int x1), (2, .int x2), (3, .int x3)] → r23 x1 x2 x3 S = some o → W p l e (rmd 2) s m args below meth c H locs 0 0 (gE below args s D (mtys cI cS) (mcell g cI cS sa) mord g (some (.int o.1)) o.2) (F0 m 23 ls [])) (K36 : ∀ (x1 : Int32) (x2 : Int32) (x3 : Int32) (x4 : Int32) (S : gS) (H : Heap) (locs : List Loc) (ls : Array Slot), gX D (mcell g cI cS sa) mord g S s H locs → lv_has ls 5 [(0, .ref (g 99)), (1, .int x1), (2, .int x2), (3, .int x3), (4, .int x4)] → r36 x1 x2 x3 x4 S = some o → W p l e (rmd 2) s m args below meth c H locs 0 0 (gE below args s D (mtys cI cS) (mcell g cI cS sa) mord g (some (.int o.1)) o.2) (F0 m 36 ls [])) (X : gX D (mcell g cI cS sa) mord g S s H locs) (hl : lv_has ls 5 [(0, .ref (g 99)), (1, .int x1), (2, .int x2), (3, .int x3), (4, .int x4)]) (hF : fX12_rhythm_b44 N r23 r36 x1 x2 x3 x4 S = some o) : W p l e (rmd 2) s m args below meth c H locs 0 0 (gE below args s D (mtys cI cS) (mcell g cI cS sa) mord g (some (.int o.1)) o.2) (F0 m 44 ls []) := by
  unfold fX12_rhythm_b44 at hF
  refine lv_iload_n C.1.1 C.1.2.1 dX12_rhythm_44 rfl (lv_at hl 2 rfl) ?_
  refine lv_aload_n C.1.1 C.1.2.1 dX12_rhythm_45 rfl (lv_at hl 0 rfl) ?_
  refine m_g7 C X dX12_rhythm_46 ?_
  refine lv_iload_n C.1.1 C.1.2.1 dX12_rhythm_49 rfl (lv_at hl 3 rfl) ?_
  obtain ⟨h_1, hF⟩ := chk_some hF
  refine m_r7 C X  (inb_vp h_1) rfl dX12_rhythm_50 ?_
  obtain ⟨h_2, hF⟩ := chk_some hF
  refine lv_irem C.1.1 C.1.2.1 dX12_rhythm_51 (nz_ne h_2) ?_
  refine lv_if_eq (tgt := 63) C.1.1 C.1.2.1 dX12_rhythm_52 (by decide) (fun h_z => ?_) (fun h_z => ?_)
  · rw [if_pos h_z] at hF
    exact bX12_rhythm_63 C O K23 X (lv_sub hl [0, 1, 2, 3] rfl) hF
  · rw [if_neg h_z] at hF
    exact bX12_rhythm_55 C O K23 K36 X (lv_sub hl [0, 1, 2, 3, 4] rfl) hF
noncomputable def fX12_rhythm_b36 (N : Nat) (r23 : Int32 → Int32 → Int32 → gS → Option (Int32 × gS)) (r36 : Int32 → Int32 → Int32 → Int32 → gS → Option (Int32 × gS)) (x1 : Int32) (x2 : Int32) (x3 : Int32) (x4 : Int32) (S : gS) : Option (Int32 × gS) := bnd (fX12_isOf N x1 x3 S) fun q1 => (if q1.1 = 0 then fX12_rhythm_b63 N r23 x1 x2 x3 q1.2 else fX12_rhythm_b44 N r23 r36 x1 x2 x3 x4 q1.2)
theorem bX12_rhythm_36 {N : Nat} {r23 : Int32 → Int32 → Int32 → gS → Option (Int32 × gS)} {r36 : Int32 → Int32 → Int32 → Int32 → gS → Option (Int32 × gS)} {x1 : Int32} {x2 : Int32} {x3 : Int32} {x4 : Int32} {S : gS} {H : Heap} {locs : List Loc} {ls : Array Slot} {o : Int32 × gS} (C : gC p s m args meth c cX12_rhythm 5 RX12 ((some .int)) D (mtys cI cS) mord g Am) (O : gO (mcell g cI cS sa) mord g) (K23 : ∀ (x1 : Int32) (x2 : Int32) (x3 : Int32) (S : gS) (H : Heap) (locs : List Loc) (ls : Array Slot), gX D (mcell g cI cS sa) mord g S s H locs → lv_has ls 5 [(0, .ref (g 99)), (1, .int x1), (2, .int x2), (3, .int x3)] → r23 x1 x2 x3 S = some o → W p l e (rmd 2) s m args below meth c H locs 0 0 (gE below args s D (mtys cI cS) (mcell g cI cS sa) mord g (some (.int o.1)) o.2) (F0 m 23 ls [])) (K36 : ∀ (x1 : Int32) (x2 : Int32) (x3 : Int32) (x4 : Int32) (S : gS) (H : Heap) (locs : List Loc) (ls : Array Slot), gX D (mcell g cI cS sa) mord g S s H locs → lv_has ls 5 [(0, .ref (g 99)), (1, .int x1), (2, .int x2), (3, .int x3), (4, .int x4)] → r36 x1 x2 x3 x4 S = some o → W p l e (rmd 2) s m args below meth c H locs 0 0 (gE below args s D (mtys cI cS) (mcell g cI cS sa) mord g (some (.int o.1)) o.2) (F0 m 36 ls [])) (X : gX D (mcell g cI cS sa) mord g S s H locs) (hl : lv_has ls 5 [(0, .ref (g 99)), (1, .int x1), (2, .int x2), (3, .int x3), (4, .int x4)]) (hF : fX12_rhythm_b36 N r23 r36 x1 x2 x3 x4 S = some o) : W p l e (rmd 2) s m args below meth c H locs 0 0 (gE below args s D (mtys cI cS) (mcell g cI cS sa) mord g (some (.int o.1)) o.2) (F0 m 36 ls []) := by
  unfold fX12_rhythm_b36 at hF
  refine lv_iload_n C.1.1 C.1.2.1 dX12_rhythm_36 rfl (lv_at hl 1 rfl) ?_
  refine lv_iload_n C.1.1 C.1.2.1 dX12_rhythm_37 rfl (lv_at hl 3 rfl) ?_
  obtain ⟨q1, hq1, hF⟩ := bnd_some hF
  refine g_callSi C X vX12_isOf (kX12_isOf O C.2.2.2.2.1 N x1 x3  S q1 hq1) (Nat.le_of_ble_eq_true rfl) (Nat.le_of_ble_eq_true rfl) (Nat.le_of_ble_eq_true rfl) (Nat.le_of_ble_eq_true rfl) rfl hl.1 rfl (Nat.le_of_ble_eq_true rfl) dX12_rhythm_38 (fun H locs X => ?_)
  refine lv_if_eq (tgt := 63) C.1.1 C.1.2.1 dX12_rhythm_41 (by decide) (fun h_z => ?_) (fun h_z => ?_)
  · rw [if_pos h_z] at hF
    exact bX12_rhythm_63 C O K23 X (lv_sub hl [0, 1, 2, 3] rfl) hF
  · rw [if_neg h_z] at hF
    exact bX12_rhythm_44 C O K23 K36 X (lv_sub hl [0, 1, 2, 3, 4] rfl) hF
noncomputable def fX12_rhythm_h36 (N : Nat) (r23 : Int32 → Int32 → Int32 → gS → Option (Int32 × gS)) : Nat → Int32 → Int32 → Int32 → Int32 → gS → Option (Int32 × gS)
  | 0, _, _, _, _, _ => none
  | n + 1, x1, x2, x3, x4, S => fX12_rhythm_b36 N r23 (fX12_rhythm_h36 N r23 n) x1 x2 x3 x4 S
theorem hX12_rhythm_36 {N : Nat} {r23 : Int32 → Int32 → Int32 → gS → Option (Int32 × gS)} {o : Int32 × gS} (C : gC p s m args meth c cX12_rhythm 5 RX12 ((some .int)) D (mtys cI cS) mord g Am) (O : gO (mcell g cI cS sa) mord g) (K23 : ∀ (x1 : Int32) (x2 : Int32) (x3 : Int32) (S : gS) (H : Heap) (locs : List Loc) (ls : Array Slot), gX D (mcell g cI cS sa) mord g S s H locs → lv_has ls 5 [(0, .ref (g 99)), (1, .int x1), (2, .int x2), (3, .int x3)] → r23 x1 x2 x3 S = some o → W p l e (rmd 2) s m args below meth c H locs 0 0 (gE below args s D (mtys cI cS) (mcell g cI cS sa) mord g (some (.int o.1)) o.2) (F0 m 23 ls [])) : ∀ (n : Nat) (x1 : Int32) (x2 : Int32) (x3 : Int32) (x4 : Int32) (S : gS) (H : Heap) (locs : List Loc) (ls : Array Slot), gX D (mcell g cI cS sa) mord g S s H locs → lv_has ls 5 [(0, .ref (g 99)), (1, .int x1), (2, .int x2), (3, .int x3), (4, .int x4)] → fX12_rhythm_h36 N r23 n x1 x2 x3 x4 S = some o → W p l e (rmd 2) s m args below meth c H locs 0 0 (gE below args s D (mtys cI cS) (mcell g cI cS sa) mord g (some (.int o.1)) o.2) (F0 m 36 ls []) := by
  intro n
  induction n with
  | zero =>
    intro x1 x2 x3 x4 S H locs ls X hl hF
    exact absurd (show (none : Option (Int32 × gS)) = some o from hF) (by simp)
  | succ n ih =>
    intro x1 x2 x3 x4 S H locs ls X hl hF
    have hF : fX12_rhythm_b36 N r23 (fX12_rhythm_h36 N r23 n) x1 x2 x3 x4 S = some o := hF
    exact bX12_rhythm_36 C O K23 ih X hl hF
noncomputable def fX12_rhythm_b33 (N : Nat) (r23 : Int32 → Int32 → Int32 → gS → Option (Int32 × gS)) (x1 : Int32) (x2 : Int32) (x3 : Int32) (S : gS) : Option (Int32 × gS) := fX12_rhythm_h36 N r23 N x1 x2 x3 x2 S
theorem bX12_rhythm_33 {N : Nat} {r23 : Int32 → Int32 → Int32 → gS → Option (Int32 × gS)} {x1 : Int32} {x2 : Int32} {x3 : Int32} {S : gS} {H : Heap} {locs : List Loc} {ls : Array Slot} {o : Int32 × gS} (C : gC p s m args meth c cX12_rhythm 5 RX12 ((some .int)) D (mtys cI cS) mord g Am) (O : gO (mcell g cI cS sa) mord g) (K23 : ∀ (x1 : Int32) (x2 : Int32) (x3 : Int32) (S : gS) (H : Heap) (locs : List Loc) (ls : Array Slot), gX D (mcell g cI cS sa) mord g S s H locs → lv_has ls 5 [(0, .ref (g 99)), (1, .int x1), (2, .int x2), (3, .int x3)] → r23 x1 x2 x3 S = some o → W p l e (rmd 2) s m args below meth c H locs 0 0 (gE below args s D (mtys cI cS) (mcell g cI cS sa) mord g (some (.int o.1)) o.2) (F0 m 23 ls [])) (X : gX D (mcell g cI cS sa) mord g S s H locs) (hl : lv_has ls 5 [(0, .ref (g 99)), (1, .int x1), (2, .int x2), (3, .int x3)]) (hF : fX12_rhythm_b33 N r23 x1 x2 x3 S = some o) : W p l e (rmd 2) s m args below meth c H locs 0 0 (gE below args s D (mtys cI cS) (mcell g cI cS sa) mord g (some (.int o.1)) o.2) (F0 m 33 ls []) := by
  unfold fX12_rhythm_b33 at hF
  refine lv_iload_n C.1.1 C.1.2.1 dX12_rhythm_33 rfl (lv_at hl 2 rfl) ?_
  refine lv_istore (lv' := [(4, .int x2), (0, .ref (g 99)), (1, .int x1), (2, .int x2), (3, .int x3)]) C.1.1 C.1.2.1 dX12_rhythm_34 hl (by decide) rfl (fun ls hl => ?_)
  exact hX12_rhythm_36 C O K23 N _ _ _ _ _ _ _ _ X (lv_sub hl [1, 2, 3, 4, 0] rfl) hF
noncomputable def fX12_rhythm_b23 (N : Nat) (r23 : Int32 → Int32 → Int32 → gS → Option (Int32 × gS)) (x1 : Int32) (x2 : Int32) (x3 : Int32) (S : gS) : Option (Int32 × gS) := if (S 5 0) ≤ x3 then fX12_rhythm_b69 N x2 S else fX12_rhythm_b33 N r23 x1 x2 x3 S
theorem bX12_rhythm_23 {N : Nat} {r23 : Int32 → Int32 → Int32 → gS → Option (Int32 × gS)} {x1 : Int32} {x2 : Int32} {x3 : Int32} {S : gS} {H : Heap} {locs : List Loc} {ls : Array Slot} {o : Int32 × gS} (C : gC p s m args meth c cX12_rhythm 5 RX12 ((some .int)) D (mtys cI cS) mord g Am) (O : gO (mcell g cI cS sa) mord g) (K23 : ∀ (x1 : Int32) (x2 : Int32) (x3 : Int32) (S : gS) (H : Heap) (locs : List Loc) (ls : Array Slot), gX D (mcell g cI cS sa) mord g S s H locs → lv_has ls 5 [(0, .ref (g 99)), (1, .int x1), (2, .int x2), (3, .int x3)] → r23 x1 x2 x3 S = some o → W p l e (rmd 2) s m args below meth c H locs 0 0 (gE below args s D (mtys cI cS) (mcell g cI cS sa) mord g (some (.int o.1)) o.2) (F0 m 23 ls [])) (X : gX D (mcell g cI cS sa) mord g S s H locs) (hl : lv_has ls 5 [(0, .ref (g 99)), (1, .int x1), (2, .int x2), (3, .int x3)]) (hF : fX12_rhythm_b23 N r23 x1 x2 x3 S = some o) : W p l e (rmd 2) s m args below meth c H locs 0 0 (gE below args s D (mtys cI cS) (mcell g cI cS sa) mord g (some (.int o.1)) o.2) (F0 m 23 ls []) := by
  unfold fX12_rhythm_b23 at hF
  refine lv_iload_n C.1.1 C.1.2.1 dX12_rhythm_23 rfl (lv_at hl 3 rfl) ?_
  refine lv_aload_n C.1.1 C.1.2.1 dX12_rhythm_24 rfl (lv_at hl 0 rfl) ?_
  refine m_g5 C X dX12_rhythm_25 ?_
  refine lv_iconst (v := 0) C.1.1 C.1.2.1 dX12_rhythm_28 (by decide) ?_
  refine m_r5 C X (j := 0) (inb_vp (by decide)) (by decide) dX12_rhythm_29 ?_
  refine lv_icmp_ge (tgt := 69) C.1.1 C.1.2.1 dX12_rhythm_30 (by decide) (fun h_z => ?_) (fun h_z => ?_)
  · rw [if_pos h_z] at hF
    exact bX12_rhythm_69 C O X (lv_sub hl [2] rfl) hF
  · rw [if_neg h_z] at hF
    exact bX12_rhythm_33 C O K23 X (lv_sub hl [0, 1, 2, 3] rfl) hF
noncomputable def fX12_rhythm_h23 (N : Nat) : Nat → Int32 → Int32 → Int32 → gS → Option (Int32 × gS)
  | 0, _, _, _, _ => none
  | n + 1, x1, x2, x3, S => fX12_rhythm_b23 N (fX12_rhythm_h23 N n) x1 x2 x3 S
theorem hX12_rhythm_23 {N : Nat} {o : Int32 × gS} (C : gC p s m args meth c cX12_rhythm 5 RX12 ((some .int)) D (mtys cI cS) mord g Am) (O : gO (mcell g cI cS sa) mord g) : ∀ (n : Nat) (x1 : Int32) (x2 : Int32) (x3 : Int32) (S : gS) (H : Heap) (locs : List Loc) (ls : Array Slot), gX D (mcell g cI cS sa) mord g S s H locs → lv_has ls 5 [(0, .ref (g 99)), (1, .int x1), (2, .int x2), (3, .int x3)] → fX12_rhythm_h23 N n x1 x2 x3 S = some o → W p l e (rmd 2) s m args below meth c H locs 0 0 (gE below args s D (mtys cI cS) (mcell g cI cS sa) mord g (some (.int o.1)) o.2) (F0 m 23 ls []) := by
  intro n
  induction n with
  | zero =>
    intro x1 x2 x3 S H locs ls X hl hF
    exact absurd (show (none : Option (Int32 × gS)) = some o from hF) (by simp)
  | succ n ih =>
    intro x1 x2 x3 S H locs ls X hl hF
    have hF : fX12_rhythm_b23 N (fX12_rhythm_h23 N n) x1 x2 x3 S = some o := hF
    exact bX12_rhythm_23 C O ih X hl hF
noncomputable def fX12_rhythm_b19 (N : Nat) (x1 : Int32) (S : gS) : Option (Int32 × gS) := fX12_rhythm_h23 N N x1 1 0 S
theorem bX12_rhythm_19 {N : Nat} {x1 : Int32} {S : gS} {H : Heap} {locs : List Loc} {ls : Array Slot} {o : Int32 × gS} (C : gC p s m args meth c cX12_rhythm 5 RX12 ((some .int)) D (mtys cI cS) mord g Am) (O : gO (mcell g cI cS sa) mord g) (X : gX D (mcell g cI cS sa) mord g S s H locs) (hl : lv_has ls 5 [(0, .ref (g 99)), (1, .int x1)]) (hF : fX12_rhythm_b19 N x1 S = some o) : W p l e (rmd 2) s m args below meth c H locs 0 0 (gE below args s D (mtys cI cS) (mcell g cI cS sa) mord g (some (.int o.1)) o.2) (F0 m 19 ls []) := by
  unfold fX12_rhythm_b19 at hF
  refine lv_iconst (v := 1) C.1.1 C.1.2.1 dX12_rhythm_19 (by decide) ?_
  refine lv_istore_n (lv' := [(2, .int 1), (0, .ref (g 99)), (1, .int x1)]) C.1.1 C.1.2.1 dX12_rhythm_20 rfl hl (by decide) rfl (fun ls hl => ?_)
  refine lv_iconst (v := 0) C.1.1 C.1.2.1 dX12_rhythm_21 (by decide) ?_
  refine lv_istore_n (lv' := [(3, .int 0), (2, .int 1), (0, .ref (g 99)), (1, .int x1)]) C.1.1 C.1.2.1 dX12_rhythm_22 rfl hl (by decide) rfl (fun ls hl => ?_)
  exact hX12_rhythm_23 C O N _ _ _ _ _ _ _ X (lv_sub hl [2, 3, 1, 0] rfl) hF
noncomputable def fX12_rhythm_b13 (N : Nat) (S : gS) : Option (Int32 × gS) := bnd (fX12_fail N 1 S) fun q1 => (some (q1.1, q1.2))
theorem bX12_rhythm_13 {N : Nat} {S : gS} {H : Heap} {locs : List Loc} {ls : Array Slot} {o : Int32 × gS} (C : gC p s m args meth c cX12_rhythm 5 RX12 ((some .int)) D (mtys cI cS) mord g Am) (O : gO (mcell g cI cS sa) mord g) (X : gX D (mcell g cI cS sa) mord g S s H locs) (hl : lv_has ls 5 [(0, .ref (g 99))]) (hF : fX12_rhythm_b13 N S = some o) : W p l e (rmd 2) s m args below meth c H locs 0 0 (gE below args s D (mtys cI cS) (mcell g cI cS sa) mord g (some (.int o.1)) o.2) (F0 m 13 ls []) := by
  unfold fX12_rhythm_b13 at hF
  refine lv_aload_n C.1.1 C.1.2.1 dX12_rhythm_13 rfl (lv_at hl 0 rfl) ?_
  refine lv_iconst (v := 1) C.1.1 C.1.2.1 dX12_rhythm_14 (by decide) ?_
  obtain ⟨q1, hq1, hF⟩ := bnd_some hF
  refine m_callVi C X vX12_fail rfl (kX12_fail O C.2.2.2.2.1 N 1  S q1 hq1) (Nat.le_of_ble_eq_true rfl) (Nat.le_of_ble_eq_true rfl) (Nat.le_of_ble_eq_true rfl) (Nat.le_of_ble_eq_true rfl) rfl hl.1 rfl (Nat.le_of_ble_eq_true rfl) dX12_rhythm_15 (fun H locs X => ?_)
  cases hF
  exact g_iret C X dX12_rhythm_18
noncomputable def fX12_rhythm_b0 (N : Nat) (x1 : Int32) (S : gS) : Option (Int32 × gS) := lt (sU S 99 4 0) fun S1 => (bnd (fX12_isSome N x1 S1) fun q1 => (if q1.1 = 0 then fX12_rhythm_b13 N q1.2 else fX12_rhythm_b19 N x1 q1.2))
theorem bX12_rhythm_0 {N : Nat} {x1 : Int32} {S : gS} {H : Heap} {locs : List Loc} {ls : Array Slot} {o : Int32 × gS} (C : gC p s m args meth c cX12_rhythm 5 RX12 ((some .int)) D (mtys cI cS) mord g Am) (O : gO (mcell g cI cS sa) mord g) (X : gX D (mcell g cI cS sa) mord g S s H locs) (hl : lv_has ls 5 [(0, .ref (g 99)), (1, .int x1)]) (hF : fX12_rhythm_b0 N x1 S = some o) : W p l e (rmd 2) s m args below meth c H locs 0 0 (gE below args s D (mtys cI cS) (mcell g cI cS sa) mord g (some (.int o.1)) o.2) (F0 m 0 ls []) := by
  unfold fX12_rhythm_b0 at hF
  refine lv_aload_n C.1.1 C.1.2.1 dX12_rhythm_0 rfl (lv_at hl 0 rfl) ?_
  refine lv_iconst (v := 0) C.1.1 C.1.2.1 dX12_rhythm_1 (by decide) ?_
  obtain ⟨S1, eS1, hF⟩ := lt_some hF
  refine m_p4 C O X eS1 dX12_rhythm_2 (fun H locs X => ?_)
  refine lv_aload_n C.1.1 C.1.2.1 dX12_rhythm_5 rfl (lv_at hl 0 rfl) ?_
  refine lv_iload_n C.1.1 C.1.2.1 dX12_rhythm_6 rfl (lv_at hl 1 rfl) ?_
  obtain ⟨q1, hq1, hF⟩ := bnd_some hF
  refine m_callVi C X vX12_isSome rfl (kX12_isSome O C.2.2.2.2.1 N x1  S1 q1 hq1) (Nat.le_of_ble_eq_true rfl) (Nat.le_of_ble_eq_true rfl) (Nat.le_of_ble_eq_true rfl) (Nat.le_of_ble_eq_true rfl) rfl hl.1 rfl (Nat.le_of_ble_eq_true rfl) dX12_rhythm_7 (fun H locs X => ?_)
  refine lv_if_ne (tgt := 19) C.1.1 C.1.2.1 dX12_rhythm_10 (by decide) (fun h_z => ?_) (fun h_z => ?_)
  · rw [if_neg h_z] at hF
    exact bX12_rhythm_19 C O X (lv_sub hl [0, 1] rfl) hF
  · rw [if_pos h_z] at hF
    exact bX12_rhythm_13 C O X (lv_sub hl [0] rfl) hF
noncomputable def fX12_rhythm (N : Nat) (x1 : Int32) (S : gS) : Option (Int32 × gS) := fX12_rhythm_b0 N x1 S
theorem kX12_rhythm {l : Launch} {D : va_G} {g : Nat → Nat} {cI cS : ClassId} {sa : Nat → Nat → Option Nat} {Am : (Nat → Prop) → State → Heap → Prop} (O : gO (mcell g cI cS sa) mord g) (P : gAm Am) (N : Nat) (x1 : Int32) (S : gS) (o : Int32 × gS) (hF : fX12_rhythm N x1 S = some o) : gM l yX12_rhythm cX12_rhythm 5 ((some .int)) 2 D (mtys cI cS) (mcell g cI cS sa) mord g Am [.ref (g 99), .int x1] S (some (.int o.1)) o.2 :=
  gM_of O P (by decide) (Nat.le_of_ble_eq_true rfl) (fun p e s m args below meth c ls C X hl => bX12_rhythm_0 C O X (lv_sub hl [0, 1] rfl) hF)
-- toHire
noncomputable def fX12_toHire_b171 (N : Nat) (t0 : Int32) (S : gS) : Option (Int32 × gS) := some (t0, S)
theorem bX12_toHire_171 {N : Nat} {t0 : Int32} {S : gS} {H : Heap} {locs : List Loc} {ls : Array Slot} {o : Int32 × gS} (C : gC p s m args meth c cX12_toHire 9 RX12 ((some .int)) D (mtys cI cS) mord g Am) (O : gO (mcell g cI cS sa) mord g) (X : gX D (mcell g cI cS sa) mord g S s H locs) (hl : lv_has ls 9 []) (hF : fX12_toHire_b171 N t0 S = some o) : W p l e (rmd 7) s m args below meth c H locs 0 0 (gE below args s D (mtys cI cS) (mcell g cI cS sa) mord g (some (.int o.1)) o.2) (F0 m 171 ls [.int t0]) := by
  unfold fX12_toHire_b171 at hF
  cases hF
  exact g_iret C X dX12_toHire_171
noncomputable def fX12_toHire_b169 (N : Nat) (x5 : Int32) (S : gS) : Option (Int32 × gS) := fX12_toHire_b171 N x5 S
theorem bX12_toHire_169 {N : Nat} {x5 : Int32} {S : gS} {H : Heap} {locs : List Loc} {ls : Array Slot} {o : Int32 × gS} (C : gC p s m args meth c cX12_toHire 9 RX12 ((some .int)) D (mtys cI cS) mord g Am) (O : gO (mcell g cI cS sa) mord g) (X : gX D (mcell g cI cS sa) mord g S s H locs) (hl : lv_has ls 9 [(5, .int x5)]) (hF : fX12_toHire_b169 N x5 S = some o) : W p l e (rmd 7) s m args below meth c H locs 0 0 (gE below args s D (mtys cI cS) (mcell g cI cS sa) mord g (some (.int o.1)) o.2) (F0 m 169 ls []) := by
  unfold fX12_toHire_b169 at hF
  refine lv_iload C.1.1 C.1.2.1 dX12_toHire_169 (lv_at hl 0 rfl) ?_
  exact bX12_toHire_171 C O X (lv_sub hl [] rfl) hF
noncomputable def fX12_toHire_b164 (N : Nat) (x4 : Int32) (S : gS) : Option (Int32 × gS) := fX12_toHire_b171 N x4 S
theorem bX12_toHire_164 {N : Nat} {x4 : Int32} {S : gS} {H : Heap} {locs : List Loc} {ls : Array Slot} {o : Int32 × gS} (C : gC p s m args meth c cX12_toHire 9 RX12 ((some .int)) D (mtys cI cS) mord g Am) (O : gO (mcell g cI cS sa) mord g) (X : gX D (mcell g cI cS sa) mord g S s H locs) (hl : lv_has ls 9 [(4, .int x4)]) (hF : fX12_toHire_b164 N x4 S = some o) : W p l e (rmd 7) s m args below meth c H locs 0 0 (gE below args s D (mtys cI cS) (mcell g cI cS sa) mord g (some (.int o.1)) o.2) (F0 m 164 ls []) := by
  unfold fX12_toHire_b164 at hF
  refine lv_iload C.1.1 C.1.2.1 dX12_toHire_164 (lv_at hl 0 rfl) ?_
  refine lv_goto (tgt := 171) C.1.1 C.1.2.1 dX12_toHire_166 (by decide) ?_
  exact bX12_toHire_171 C O X (lv_sub hl [] rfl) hF
noncomputable def fX12_toHire_b158 (N : Nat) (x4 : Int32) (x5 : Int32) (S : gS) : Option (Int32 × gS) := if x4 = ((-1)) then fX12_toHire_b164 N x4 S else fX12_toHire_b169 N x5 S
theorem bX12_toHire_158 {N : Nat} {x4 : Int32} {x5 : Int32} {S : gS} {H : Heap} {locs : List Loc} {ls : Array Slot} {o : Int32 × gS} (C : gC p s m args meth c cX12_toHire 9 RX12 ((some .int)) D (mtys cI cS) mord g Am) (O : gO (mcell g cI cS sa) mord g) (X : gX D (mcell g cI cS sa) mord g S s H locs) (hl : lv_has ls 9 [(4, .int x4), (5, .int x5)]) (hF : fX12_toHire_b158 N x4 x5 S = some o) : W p l e (rmd 7) s m args below meth c H locs 0 0 (gE below args s D (mtys cI cS) (mcell g cI cS sa) mord g (some (.int o.1)) o.2) (F0 m 158 ls []) := by
  unfold fX12_toHire_b158 at hF
  refine lv_iload C.1.1 C.1.2.1 dX12_toHire_158 (lv_at hl 0 rfl) ?_
  refine lv_iconst (v := (-1)) C.1.1 C.1.2.1 dX12_toHire_160 (by decide) ?_
  refine lv_icmp_ne (tgt := 169) C.1.1 C.1.2.1 dX12_toHire_161 (by decide) (fun h_z => ?_) (fun h_z => ?_)
  · rw [if_neg h_z] at hF
    exact bX12_toHire_169 C O X (lv_sub hl [1] rfl) hF
  · rw [if_pos h_z] at hF
    exact bX12_toHire_164 C O X (lv_sub hl [0] rfl) hF
noncomputable def fX12_toHire_b154 (N : Nat) (x3 : Int32) (x4 : Int32) (x5 : Int32) (S : gS) : Option (Int32 × gS) := if x3 = 0 then fX12_toHire_b164 N x4 S else fX12_toHire_b158 N x4 x5 S
theorem bX12_toHire_154 {N : Nat} {x3 : Int32} {x4 : Int32} {x5 : Int32} {S : gS} {H : Heap} {locs : List Loc} {ls : Array Slot} {o : Int32 × gS} (C : gC p s m args meth c cX12_toHire 9 RX12 ((some .int)) D (mtys cI cS) mord g Am) (O : gO (mcell g cI cS sa) mord g) (X : gX D (mcell g cI cS sa) mord g S s H locs) (hl : lv_has ls 9 [(3, .int x3), (4, .int x4), (5, .int x5)]) (hF : fX12_toHire_b154 N x3 x4 x5 S = some o) : W p l e (rmd 7) s m args below meth c H locs 0 0 (gE below args s D (mtys cI cS) (mcell g cI cS sa) mord g (some (.int o.1)) o.2) (F0 m 154 ls []) := by
  unfold fX12_toHire_b154 at hF
  refine lv_iload_n C.1.1 C.1.2.1 dX12_toHire_154 rfl (lv_at hl 0 rfl) ?_
  refine lv_if_eq (tgt := 164) C.1.1 C.1.2.1 dX12_toHire_155 (by decide) (fun h_z => ?_) (fun h_z => ?_)
  · rw [if_pos h_z] at hF
    exact bX12_toHire_164 C O X (lv_sub hl [1] rfl) hF
  · rw [if_neg h_z] at hF
    exact bX12_toHire_158 C O X (lv_sub hl [1, 2] rfl) hF
noncomputable def fX12_toHire_b148 (N : Nat) (r66 : Int32 → Int32 → Int32 → Int32 → Int32 → Int32 → gS → Option (Int32 × gS)) (x1 : Int32) (x2 : Int32) (x3 : Int32) (x4 : Int32) (x5 : Int32) (x6 : Int32) (S : gS) : Option (Int32 × gS) := r66 x1 x2 x3 x4 x5 ((x6 + 1 : Int32)) S
theorem bX12_toHire_148 {N : Nat} {r66 : Int32 → Int32 → Int32 → Int32 → Int32 → Int32 → gS → Option (Int32 × gS)} {x1 : Int32} {x2 : Int32} {x3 : Int32} {x4 : Int32} {x5 : Int32} {x6 : Int32} {S : gS} {H : Heap} {locs : List Loc} {ls : Array Slot} {o : Int32 × gS} (C : gC p s m args meth c cX12_toHire 9 RX12 ((some .int)) D (mtys cI cS) mord g Am) (O : gO (mcell g cI cS sa) mord g) (K66 : ∀ (x1 : Int32) (x2 : Int32) (x3 : Int32) (x4 : Int32) (x5 : Int32) (x6 : Int32) (S : gS) (H : Heap) (locs : List Loc) (ls : Array Slot), gX D (mcell g cI cS sa) mord g S s H locs → lv_has ls 9 [(0, .ref (g 99)), (1, .int x1), (2, .int x2), (3, .int x3), (4, .int x4), (5, .int x5), (6, .int x6)] → r66 x1 x2 x3 x4 x5 x6 S = some o → W p l e (rmd 7) s m args below meth c H locs 0 0 (gE below args s D (mtys cI cS) (mcell g cI cS sa) mord g (some (.int o.1)) o.2) (F0 m 66 ls [])) (X : gX D (mcell g cI cS sa) mord g S s H locs) (hl : lv_has ls 9 [(0, .ref (g 99)), (1, .int x1), (2, .int x2), (3, .int x3), (4, .int x4), (5, .int x5), (6, .int x6)]) (hF : fX12_toHire_b148 N r66 x1 x2 x3 x4 x5 x6 S = some o) : W p l e (rmd 7) s m args below meth c H locs 0 0 (gE below args s D (mtys cI cS) (mcell g cI cS sa) mord g (some (.int o.1)) o.2) (F0 m 148 ls []) := by
  unfold fX12_toHire_b148 at hF
  refine lv_iinc (v := (x6 + 1 : Int32)) (lv' := [(6, .int ((x6 + 1 : Int32))), (0, .ref (g 99)), (1, .int x1), (2, .int x2), (3, .int x3), (4, .int x4), (5, .int x5)]) C.1.1 C.1.2.1 dX12_toHire_148 hl (k := 6) rfl rfl (by decide) rfl (fun ls hl => ?_)
  refine lv_goto (tgt := 66) C.1.1 C.1.2.1 dX12_toHire_151 (by decide) ?_
  exact K66 _ _ _ _ _ _ _ _ _ _ X (lv_sub hl [1, 2, 3, 4, 5, 6, 0] rfl) hF
noncomputable def fX12_toHire_b140 (N : Nat) (r66 : Int32 → Int32 → Int32 → Int32 → Int32 → Int32 → gS → Option (Int32 × gS)) (x1 : Int32) (x2 : Int32) (x3 : Int32) (x6 : Int32) (x8 : Int32) (S : gS) : Option (Int32 × gS) := fX12_toHire_b148 N r66 x1 x2 x3 x6 x8 x6 S
theorem bX12_toHire_140 {N : Nat} {r66 : Int32 → Int32 → Int32 → Int32 → Int32 → Int32 → gS → Option (Int32 × gS)} {x1 : Int32} {x2 : Int32} {x3 : Int32} {x6 : Int32} {x8 : Int32} {S : gS} {H : Heap} {locs : List Loc} {ls : Array Slot} {o : Int32 × gS} (C : gC p s m args meth c cX12_toHire 9 RX12 ((some .int)) D (mtys cI cS) mord g Am) (O : gO (mcell g cI cS sa) mord g) (K66 : ∀ (x1 : Int32) (x2 : Int32) (x3 : Int32) (x4 : Int32) (x5 : Int32) (x6 : Int32) (S : gS) (H : Heap) (locs : List Loc) (ls : Array Slot), gX D (mcell g cI cS sa) mord g S s H locs → lv_has ls 9 [(0, .ref (g 99)), (1, .int x1), (2, .int x2), (3, .int x3), (4, .int x4), (5, .int x5), (6, .int x6)] → r66 x1 x2 x3 x4 x5 x6 S = some o → W p l e (rmd 7) s m args below meth c H locs 0 0 (gE below args s D (mtys cI cS) (mcell g cI cS sa) mord g (some (.int o.1)) o.2) (F0 m 66 ls [])) (X : gX D (mcell g cI cS sa) mord g S s H locs) (hl : lv_has ls 9 [(0, .ref (g 99)), (1, .int x1), (2, .int x2), (3, .int x3), (6, .int x6), (8, .int x8)]) (hF : fX12_toHire_b140 N r66 x1 x2 x3 x6 x8 S = some o) : W p l e (rmd 7) s m args below meth c H locs 0 0 (gE below args s D (mtys cI cS) (mcell g cI cS sa) mord g (some (.int o.1)) o.2) (F0 m 140 ls []) := by
  unfold fX12_toHire_b140 at hF
  refine lv_iload C.1.1 C.1.2.1 dX12_toHire_140 (lv_at hl 4 rfl) ?_
  refine lv_istore (lv' := [(4, .int x6), (0, .ref (g 99)), (1, .int x1), (2, .int x2), (3, .int x3), (6, .int x6), (8, .int x8)]) C.1.1 C.1.2.1 dX12_toHire_142 hl (by decide) rfl (fun ls hl => ?_)
  refine lv_iload C.1.1 C.1.2.1 dX12_toHire_144 (lv_at hl 6 rfl) ?_
  refine lv_istore (lv' := [(5, .int x8), (4, .int x6), (0, .ref (g 99)), (1, .int x1), (2, .int x2), (3, .int x3), (6, .int x6), (8, .int x8)]) C.1.1 C.1.2.1 dX12_toHire_146 hl (by decide) rfl (fun ls hl => ?_)
  exact bX12_toHire_148 C O K66 X (lv_sub hl [2, 3, 4, 5, 1, 0, 6] rfl) hF
noncomputable def fX12_toHire_b137 (N : Nat) (r66 : Int32 → Int32 → Int32 → Int32 → Int32 → Int32 → gS → Option (Int32 × gS)) (x1 : Int32) (x2 : Int32) (x3 : Int32) (x4 : Int32) (x5 : Int32) (x6 : Int32) (S : gS) : Option (Int32 × gS) := fX12_toHire_b148 N r66 x1 x2 x3 x4 x5 x6 S
theorem bX12_toHire_137 {N : Nat} {r66 : Int32 → Int32 → Int32 → Int32 → Int32 → Int32 → gS → Option (Int32 × gS)} {x1 : Int32} {x2 : Int32} {x3 : Int32} {x4 : Int32} {x5 : Int32} {x6 : Int32} {S : gS} {H : Heap} {locs : List Loc} {ls : Array Slot} {o : Int32 × gS} (C : gC p s m args meth c cX12_toHire 9 RX12 ((some .int)) D (mtys cI cS) mord g Am) (O : gO (mcell g cI cS sa) mord g) (K66 : ∀ (x1 : Int32) (x2 : Int32) (x3 : Int32) (x4 : Int32) (x5 : Int32) (x6 : Int32) (S : gS) (H : Heap) (locs : List Loc) (ls : Array Slot), gX D (mcell g cI cS sa) mord g S s H locs → lv_has ls 9 [(0, .ref (g 99)), (1, .int x1), (2, .int x2), (3, .int x3), (4, .int x4), (5, .int x5), (6, .int x6)] → r66 x1 x2 x3 x4 x5 x6 S = some o → W p l e (rmd 7) s m args below meth c H locs 0 0 (gE below args s D (mtys cI cS) (mcell g cI cS sa) mord g (some (.int o.1)) o.2) (F0 m 66 ls [])) (X : gX D (mcell g cI cS sa) mord g S s H locs) (hl : lv_has ls 9 [(0, .ref (g 99)), (1, .int x1), (2, .int x2), (3, .int x3), (4, .int x4), (5, .int x5), (6, .int x6)]) (hF : fX12_toHire_b137 N r66 x1 x2 x3 x4 x5 x6 S = some o) : W p l e (rmd 7) s m args below meth c H locs 0 0 (gE below args s D (mtys cI cS) (mcell g cI cS sa) mord g (some (.int o.1)) o.2) (F0 m 137 ls []) := by
  unfold fX12_toHire_b137 at hF
  refine lv_goto (tgt := 148) C.1.1 C.1.2.1 dX12_toHire_137 (by decide) ?_
  exact bX12_toHire_148 C O K66 X (lv_sub hl [0, 1, 2, 3, 4, 5, 6] rfl) hF
noncomputable def fX12_toHire_b100 (N : Nat) (r66 : Int32 → Int32 → Int32 → Int32 → Int32 → Int32 → gS → Option (Int32 × gS)) (x1 : Int32) (x2 : Int32) (x3 : Int32) (x4 : Int32) (x5 : Int32) (x6 : Int32) (S : gS) : Option (Int32 × gS) := chk (inb x1 (6)) (lt (sU S 35 (Int32.toNatClampNeg x1) x6) fun S1 => (bnd (fX12_goOn N x2 S1) fun q1 => (chk (inb x1 (6)) (bnd (fX12_unpack N 46 0 q1.2) fun q2 => (if (q1.2 32 (Int32.toNatClampNeg x1)) < x5 then fX12_toHire_b140 N r66 x1 x2 x3 x6 (q1.2 32 (Int32.toNatClampNeg x1)) q2.2 else fX12_toHire_b137 N r66 x1 x2 x3 x4 x5 x6 q2.2)))))
theorem bX12_toHire_100 {N : Nat} {r66 : Int32 → Int32 → Int32 → Int32 → Int32 → Int32 → gS → Option (Int32 × gS)} {x1 : Int32} {x2 : Int32} {x3 : Int32} {x4 : Int32} {x5 : Int32} {x6 : Int32} {S : gS} {H : Heap} {locs : List Loc} {ls : Array Slot} {o : Int32 × gS} (C : gC p s m args meth c cX12_toHire 9 RX12 ((some .int)) D (mtys cI cS) mord g Am) (O : gO (mcell g cI cS sa) mord g) (K66 : ∀ (x1 : Int32) (x2 : Int32) (x3 : Int32) (x4 : Int32) (x5 : Int32) (x6 : Int32) (S : gS) (H : Heap) (locs : List Loc) (ls : Array Slot), gX D (mcell g cI cS sa) mord g S s H locs → lv_has ls 9 [(0, .ref (g 99)), (1, .int x1), (2, .int x2), (3, .int x3), (4, .int x4), (5, .int x5), (6, .int x6)] → r66 x1 x2 x3 x4 x5 x6 S = some o → W p l e (rmd 7) s m args below meth c H locs 0 0 (gE below args s D (mtys cI cS) (mcell g cI cS sa) mord g (some (.int o.1)) o.2) (F0 m 66 ls [])) (X : gX D (mcell g cI cS sa) mord g S s H locs) (hl : lv_has ls 9 [(0, .ref (g 99)), (1, .int x1), (2, .int x2), (3, .int x3), (4, .int x4), (5, .int x5), (6, .int x6)]) (hF : fX12_toHire_b100 N r66 x1 x2 x3 x4 x5 x6 S = some o) : W p l e (rmd 7) s m args below meth c H locs 0 0 (gE below args s D (mtys cI cS) (mcell g cI cS sa) mord g (some (.int o.1)) o.2) (F0 m 100 ls []) := by
  unfold fX12_toHire_b100 at hF
  refine lv_aload_n C.1.1 C.1.2.1 dX12_toHire_100 rfl (lv_at hl 0 rfl) ?_
  refine m_g35 C X dX12_toHire_101 ?_
  refine lv_iload_n C.1.1 C.1.2.1 dX12_toHire_104 rfl (lv_at hl 1 rfl) ?_
  refine lv_iload C.1.1 C.1.2.1 dX12_toHire_105 (lv_at hl 6 rfl) ?_
  obtain ⟨h_1, hF⟩ := chk_some hF
  obtain ⟨S1, eS1, hF⟩ := lt_some hF
  refine m_w35 C O X  (inb_vp h_1) rfl eS1 dX12_toHire_107 (fun H locs X => ?_)
  refine lv_aload_n C.1.1 C.1.2.1 dX12_toHire_108 rfl (lv_at hl 0 rfl) ?_
  refine lv_iload_n C.1.1 C.1.2.1 dX12_toHire_109 rfl (lv_at hl 2 rfl) ?_
  obtain ⟨q1, hq1, hF⟩ := bnd_some hF
  refine m_callV C X vX12_goOn rfl (kX12_goOn O C.2.2.2.2.1 N x2  S1 q1 hq1) (Nat.le_of_ble_eq_true rfl) (Nat.le_of_ble_eq_true rfl) (Nat.le_of_ble_eq_true rfl) (Nat.le_of_ble_eq_true rfl) rfl hl.1 rfl (Nat.le_of_ble_eq_true rfl) dX12_toHire_110 (fun H locs X => ?_)
  refine lv_aload_n C.1.1 C.1.2.1 dX12_toHire_113 rfl (lv_at hl 0 rfl) ?_
  refine m_g32 C X dX12_toHire_114 ?_
  refine lv_iload_n C.1.1 C.1.2.1 dX12_toHire_117 rfl (lv_at hl 1 rfl) ?_
  obtain ⟨h_2, hF⟩ := chk_some hF
  refine m_r32 C X  (inb_vp h_2) rfl dX12_toHire_118 ?_
  refine lv_istore (lv' := [(8, .int (q1.2 32 (Int32.toNatClampNeg x1))), (0, .ref (g 99)), (1, .int x1), (2, .int x2), (3, .int x3), (4, .int x4), (5, .int x5), (6, .int x6)]) C.1.1 C.1.2.1 dX12_toHire_119 hl (by decide) rfl (fun ls hl => ?_)
  refine lv_aload_n C.1.1 C.1.2.1 dX12_toHire_121 rfl (lv_at hl 1 rfl) ?_
  refine lv_aload_n C.1.1 C.1.2.1 dX12_toHire_122 rfl (lv_at hl 1 rfl) ?_
  refine m_g46 C X dX12_toHire_123 ?_
  refine lv_iconst (v := 0) C.1.1 C.1.2.1 dX12_toHire_126 (by decide) ?_
  obtain ⟨q2, hq2, hF⟩ := bnd_some hF
  refine m_callV C X vX12_unpack rfl (kX12_unpack O C.2.2.2.2.1 N 46 0 (rfl : mI 46 = true) q1.2 q2 hq2) (Nat.le_of_ble_eq_true rfl) (Nat.le_of_ble_eq_true rfl) (Nat.le_of_ble_eq_true rfl) (Nat.le_of_ble_eq_true rfl) rfl hl.1 rfl (Nat.le_of_ble_eq_true rfl) dX12_toHire_127 (fun H locs X => ?_)
  refine lv_iload C.1.1 C.1.2.1 dX12_toHire_130 (lv_at hl 0 rfl) ?_
  refine lv_iload C.1.1 C.1.2.1 dX12_toHire_132 (lv_at hl 6 rfl) ?_
  refine lv_icmp_lt (tgt := 140) C.1.1 C.1.2.1 dX12_toHire_134 (by decide) (fun h_z => ?_) (fun h_z => ?_)
  · rw [if_pos h_z] at hF
    exact bX12_toHire_140 C O K66 X (lv_sub hl [1, 2, 3, 4, 7, 0] rfl) hF
  · rw [if_neg h_z] at hF
    exact bX12_toHire_137 C O K66 X (lv_sub hl [1, 2, 3, 4, 5, 6, 7] rfl) hF
noncomputable def fX12_toHire_b97 (N : Nat) (r66 : Int32 → Int32 → Int32 → Int32 → Int32 → Int32 → gS → Option (Int32 × gS)) (x1 : Int32) (x2 : Int32) (x3 : Int32) (x4 : Int32) (x5 : Int32) (x6 : Int32) (S : gS) : Option (Int32 × gS) := fX12_toHire_b148 N r66 x1 x2 x3 x4 x5 x6 S
theorem bX12_toHire_97 {N : Nat} {r66 : Int32 → Int32 → Int32 → Int32 → Int32 → Int32 → gS → Option (Int32 × gS)} {x1 : Int32} {x2 : Int32} {x3 : Int32} {x4 : Int32} {x5 : Int32} {x6 : Int32} {S : gS} {H : Heap} {locs : List Loc} {ls : Array Slot} {o : Int32 × gS} (C : gC p s m args meth c cX12_toHire 9 RX12 ((some .int)) D (mtys cI cS) mord g Am) (O : gO (mcell g cI cS sa) mord g) (K66 : ∀ (x1 : Int32) (x2 : Int32) (x3 : Int32) (x4 : Int32) (x5 : Int32) (x6 : Int32) (S : gS) (H : Heap) (locs : List Loc) (ls : Array Slot), gX D (mcell g cI cS sa) mord g S s H locs → lv_has ls 9 [(0, .ref (g 99)), (1, .int x1), (2, .int x2), (3, .int x3), (4, .int x4), (5, .int x5), (6, .int x6)] → r66 x1 x2 x3 x4 x5 x6 S = some o → W p l e (rmd 7) s m args below meth c H locs 0 0 (gE below args s D (mtys cI cS) (mcell g cI cS sa) mord g (some (.int o.1)) o.2) (F0 m 66 ls [])) (X : gX D (mcell g cI cS sa) mord g S s H locs) (hl : lv_has ls 9 [(0, .ref (g 99)), (1, .int x1), (2, .int x2), (3, .int x3), (4, .int x4), (5, .int x5), (6, .int x6)]) (hF : fX12_toHire_b97 N r66 x1 x2 x3 x4 x5 x6 S = some o) : W p l e (rmd 7) s m args below meth c H locs 0 0 (gE below args s D (mtys cI cS) (mcell g cI cS sa) mord g (some (.int o.1)) o.2) (F0 m 97 ls []) := by
  unfold fX12_toHire_b97 at hF
  refine lv_goto (tgt := 148) C.1.1 C.1.2.1 dX12_toHire_97 (by decide) ?_
  exact bX12_toHire_148 C O K66 X (lv_sub hl [0, 1, 2, 3, 4, 5, 6] rfl) hF
noncomputable def fX12_toHire_b91 (N : Nat) (r66 : Int32 → Int32 → Int32 → Int32 → Int32 → Int32 → gS → Option (Int32 × gS)) (x1 : Int32) (x2 : Int32) (x3 : Int32) (x4 : Int32) (x5 : Int32) (x6 : Int32) (x7 : Int32) (S : gS) : Option (Int32 × gS) := if x7 = x1 then fX12_toHire_b100 N r66 x1 x2 x3 x4 x5 x6 S else fX12_toHire_b97 N r66 x1 x2 x3 x4 x5 x6 S
theorem bX12_toHire_91 {N : Nat} {r66 : Int32 → Int32 → Int32 → Int32 → Int32 → Int32 → gS → Option (Int32 × gS)} {x1 : Int32} {x2 : Int32} {x3 : Int32} {x4 : Int32} {x5 : Int32} {x6 : Int32} {x7 : Int32} {S : gS} {H : Heap} {locs : List Loc} {ls : Array Slot} {o : Int32 × gS} (C : gC p s m args meth c cX12_toHire 9 RX12 ((some .int)) D (mtys cI cS) mord g Am) (O : gO (mcell g cI cS sa) mord g) (K66 : ∀ (x1 : Int32) (x2 : Int32) (x3 : Int32) (x4 : Int32) (x5 : Int32) (x6 : Int32) (S : gS) (H : Heap) (locs : List Loc) (ls : Array Slot), gX D (mcell g cI cS sa) mord g S s H locs → lv_has ls 9 [(0, .ref (g 99)), (1, .int x1), (2, .int x2), (3, .int x3), (4, .int x4), (5, .int x5), (6, .int x6)] → r66 x1 x2 x3 x4 x5 x6 S = some o → W p l e (rmd 7) s m args below meth c H locs 0 0 (gE below args s D (mtys cI cS) (mcell g cI cS sa) mord g (some (.int o.1)) o.2) (F0 m 66 ls [])) (X : gX D (mcell g cI cS sa) mord g S s H locs) (hl : lv_has ls 9 [(0, .ref (g 99)), (1, .int x1), (2, .int x2), (3, .int x3), (4, .int x4), (5, .int x5), (6, .int x6), (7, .int x7)]) (hF : fX12_toHire_b91 N r66 x1 x2 x3 x4 x5 x6 x7 S = some o) : W p l e (rmd 7) s m args below meth c H locs 0 0 (gE below args s D (mtys cI cS) (mcell g cI cS sa) mord g (some (.int o.1)) o.2) (F0 m 91 ls []) := by
  unfold fX12_toHire_b91 at hF
  refine lv_iload C.1.1 C.1.2.1 dX12_toHire_91 (lv_at hl 7 rfl) ?_
  refine lv_iload_n C.1.1 C.1.2.1 dX12_toHire_93 rfl (lv_at hl 1 rfl) ?_
  refine lv_icmp_eq (tgt := 100) C.1.1 C.1.2.1 dX12_toHire_94 (by decide) (fun h_z => ?_) (fun h_z => ?_)
  · rw [if_pos h_z] at hF
    exact bX12_toHire_100 C O K66 X (lv_sub hl [0, 1, 2, 3, 4, 5, 6] rfl) hF
  · rw [if_neg h_z] at hF
    exact bX12_toHire_97 C O K66 X (lv_sub hl [0, 1, 2, 3, 4, 5, 6] rfl) hF
noncomputable def fX12_toHire_b77 (N : Nat) (r66 : Int32 → Int32 → Int32 → Int32 → Int32 → Int32 → gS → Option (Int32 × gS)) (x1 : Int32) (x2 : Int32) (x3 : Int32) (x4 : Int32) (x5 : Int32) (x6 : Int32) (S : gS) : Option (Int32 × gS) := bnd (fX12_hirerOf N x6 S) fun q1 => (if q1.1 = ((-1)) then fX12_toHire_b100 N r66 x1 x2 x3 x4 x5 x6 q1.2 else fX12_toHire_b91 N r66 x1 x2 x3 x4 x5 x6 q1.1 q1.2)
theorem bX12_toHire_77 {N : Nat} {r66 : Int32 → Int32 → Int32 → Int32 → Int32 → Int32 → gS → Option (Int32 × gS)} {x1 : Int32} {x2 : Int32} {x3 : Int32} {x4 : Int32} {x5 : Int32} {x6 : Int32} {S : gS} {H : Heap} {locs : List Loc} {ls : Array Slot} {o : Int32 × gS} (C : gC p s m args meth c cX12_toHire 9 RX12 ((some .int)) D (mtys cI cS) mord g Am) (O : gO (mcell g cI cS sa) mord g) (K66 : ∀ (x1 : Int32) (x2 : Int32) (x3 : Int32) (x4 : Int32) (x5 : Int32) (x6 : Int32) (S : gS) (H : Heap) (locs : List Loc) (ls : Array Slot), gX D (mcell g cI cS sa) mord g S s H locs → lv_has ls 9 [(0, .ref (g 99)), (1, .int x1), (2, .int x2), (3, .int x3), (4, .int x4), (5, .int x5), (6, .int x6)] → r66 x1 x2 x3 x4 x5 x6 S = some o → W p l e (rmd 7) s m args below meth c H locs 0 0 (gE below args s D (mtys cI cS) (mcell g cI cS sa) mord g (some (.int o.1)) o.2) (F0 m 66 ls [])) (X : gX D (mcell g cI cS sa) mord g S s H locs) (hl : lv_has ls 9 [(0, .ref (g 99)), (1, .int x1), (2, .int x2), (3, .int x3), (4, .int x4), (5, .int x5), (6, .int x6)]) (hF : fX12_toHire_b77 N r66 x1 x2 x3 x4 x5 x6 S = some o) : W p l e (rmd 7) s m args below meth c H locs 0 0 (gE below args s D (mtys cI cS) (mcell g cI cS sa) mord g (some (.int o.1)) o.2) (F0 m 77 ls []) := by
  unfold fX12_toHire_b77 at hF
  refine lv_aload_n C.1.1 C.1.2.1 dX12_toHire_77 rfl (lv_at hl 0 rfl) ?_
  refine lv_iload C.1.1 C.1.2.1 dX12_toHire_78 (lv_at hl 6 rfl) ?_
  obtain ⟨q1, hq1, hF⟩ := bnd_some hF
  refine m_callVi C X vX12_hirerOf rfl (kX12_hirerOf O C.2.2.2.2.1 N x6  S q1 hq1) (Nat.le_of_ble_eq_true rfl) (Nat.le_of_ble_eq_true rfl) (Nat.le_of_ble_eq_true rfl) (Nat.le_of_ble_eq_true rfl) rfl hl.1 rfl (Nat.le_of_ble_eq_true rfl) dX12_toHire_80 (fun H locs X => ?_)
  refine lv_istore (lv' := [(7, .int q1.1), (0, .ref (g 99)), (1, .int x1), (2, .int x2), (3, .int x3), (4, .int x4), (5, .int x5), (6, .int x6)]) C.1.1 C.1.2.1 dX12_toHire_83 hl (by decide) rfl (fun ls hl => ?_)
  refine lv_iload C.1.1 C.1.2.1 dX12_toHire_85 (lv_at hl 0 rfl) ?_
  refine lv_iconst (v := (-1)) C.1.1 C.1.2.1 dX12_toHire_87 (by decide) ?_
  refine lv_icmp_eq (tgt := 100) C.1.1 C.1.2.1 dX12_toHire_88 (by decide) (fun h_z => ?_) (fun h_z => ?_)
  · rw [if_pos h_z] at hF
    exact bX12_toHire_100 C O K66 X (lv_sub hl [1, 2, 3, 4, 5, 6, 7] rfl) hF
  · rw [if_neg h_z] at hF
    exact bX12_toHire_91 C O K66 X (lv_sub hl [1, 2, 3, 4, 5, 6, 7, 0] rfl) hF
noncomputable def fX12_toHire_b66 (N : Nat) (r66 : Int32 → Int32 → Int32 → Int32 → Int32 → Int32 → gS → Option (Int32 × gS)) (x1 : Int32) (x2 : Int32) (x3 : Int32) (x4 : Int32) (x5 : Int32) (x6 : Int32) (S : gS) : Option (Int32 × gS) := if (S 5 0) ≤ x6 then fX12_toHire_b154 N x3 x4 x5 S else fX12_toHire_b77 N r66 x1 x2 x3 x4 x5 x6 S
theorem bX12_toHire_66 {N : Nat} {r66 : Int32 → Int32 → Int32 → Int32 → Int32 → Int32 → gS → Option (Int32 × gS)} {x1 : Int32} {x2 : Int32} {x3 : Int32} {x4 : Int32} {x5 : Int32} {x6 : Int32} {S : gS} {H : Heap} {locs : List Loc} {ls : Array Slot} {o : Int32 × gS} (C : gC p s m args meth c cX12_toHire 9 RX12 ((some .int)) D (mtys cI cS) mord g Am) (O : gO (mcell g cI cS sa) mord g) (K66 : ∀ (x1 : Int32) (x2 : Int32) (x3 : Int32) (x4 : Int32) (x5 : Int32) (x6 : Int32) (S : gS) (H : Heap) (locs : List Loc) (ls : Array Slot), gX D (mcell g cI cS sa) mord g S s H locs → lv_has ls 9 [(0, .ref (g 99)), (1, .int x1), (2, .int x2), (3, .int x3), (4, .int x4), (5, .int x5), (6, .int x6)] → r66 x1 x2 x3 x4 x5 x6 S = some o → W p l e (rmd 7) s m args below meth c H locs 0 0 (gE below args s D (mtys cI cS) (mcell g cI cS sa) mord g (some (.int o.1)) o.2) (F0 m 66 ls [])) (X : gX D (mcell g cI cS sa) mord g S s H locs) (hl : lv_has ls 9 [(0, .ref (g 99)), (1, .int x1), (2, .int x2), (3, .int x3), (4, .int x4), (5, .int x5), (6, .int x6)]) (hF : fX12_toHire_b66 N r66 x1 x2 x3 x4 x5 x6 S = some o) : W p l e (rmd 7) s m args below meth c H locs 0 0 (gE below args s D (mtys cI cS) (mcell g cI cS sa) mord g (some (.int o.1)) o.2) (F0 m 66 ls []) := by
  unfold fX12_toHire_b66 at hF
  refine lv_iload C.1.1 C.1.2.1 dX12_toHire_66 (lv_at hl 6 rfl) ?_
  refine lv_aload_n C.1.1 C.1.2.1 dX12_toHire_68 rfl (lv_at hl 0 rfl) ?_
  refine m_g5 C X dX12_toHire_69 ?_
  refine lv_iconst (v := 0) C.1.1 C.1.2.1 dX12_toHire_72 (by decide) ?_
  refine m_r5 C X (j := 0) (inb_vp (by decide)) (by decide) dX12_toHire_73 ?_
  refine lv_icmp_ge (tgt := 154) C.1.1 C.1.2.1 dX12_toHire_74 (by decide) (fun h_z => ?_) (fun h_z => ?_)
  · rw [if_pos h_z] at hF
    exact bX12_toHire_154 C O X (lv_sub hl [3, 4, 5] rfl) hF
  · rw [if_neg h_z] at hF
    exact bX12_toHire_77 C O K66 X (lv_sub hl [0, 1, 2, 3, 4, 5, 6] rfl) hF
noncomputable def fX12_toHire_h66 (N : Nat) : Nat → Int32 → Int32 → Int32 → Int32 → Int32 → Int32 → gS → Option (Int32 × gS)
  | 0, _, _, _, _, _, _, _ => none
  | n + 1, x1, x2, x3, x4, x5, x6, S => fX12_toHire_b66 N (fX12_toHire_h66 N n) x1 x2 x3 x4 x5 x6 S
theorem hX12_toHire_66 {N : Nat} {o : Int32 × gS} (C : gC p s m args meth c cX12_toHire 9 RX12 ((some .int)) D (mtys cI cS) mord g Am) (O : gO (mcell g cI cS sa) mord g) : ∀ (n : Nat) (x1 : Int32) (x2 : Int32) (x3 : Int32) (x4 : Int32) (x5 : Int32) (x6 : Int32) (S : gS) (H : Heap) (locs : List Loc) (ls : Array Slot), gX D (mcell g cI cS sa) mord g S s H locs → lv_has ls 9 [(0, .ref (g 99)), (1, .int x1), (2, .int x2), (3, .int x3), (4, .int x4), (5, .int x5), (6, .int x6)] → fX12_toHire_h66 N n x1 x2 x3 x4 x5 x6 S = some o → W p l e (rmd 7) s m args below meth c H locs 0 0 (gE below args s D (mtys cI cS) (mcell g cI cS sa) mord g (some (.int o.1)) o.2) (F0 m 66 ls []) := by
  intro n
  induction n with
  | zero =>
    intro x1 x2 x3 x4 x5 x6 S H locs ls X hl hF
    exact absurd (show (none : Option (Int32 × gS)) = some o from hF) (by simp)
  | succ n ih =>
    intro x1 x2 x3 x4 x5 x6 S H locs ls X hl hF
    have hF : fX12_toHire_b66 N (fX12_toHire_h66 N n) x1 x2 x3 x4 x5 x6 S = some o := hF
    exact bX12_toHire_66 C O ih X hl hF
noncomputable def fX12_toHire_b46 (N : Nat) (x1 : Int32) (x2 : Int32) (x3 : Int32) (S : gS) : Option (Int32 × gS) := bnd (fX12_pack N 46 0 S) fun q1 => (fX12_toHire_h66 N N x1 x2 x3 ((-1)) 1000 0 q1.2)
theorem bX12_toHire_46 {N : Nat} {x1 : Int32} {x2 : Int32} {x3 : Int32} {S : gS} {H : Heap} {locs : List Loc} {ls : Array Slot} {o : Int32 × gS} (C : gC p s m args meth c cX12_toHire 9 RX12 ((some .int)) D (mtys cI cS) mord g Am) (O : gO (mcell g cI cS sa) mord g) (X : gX D (mcell g cI cS sa) mord g S s H locs) (hl : lv_has ls 9 [(0, .ref (g 99)), (1, .int x1), (2, .int x2), (3, .int x3)]) (hF : fX12_toHire_b46 N x1 x2 x3 S = some o) : W p l e (rmd 7) s m args below meth c H locs 0 0 (gE below args s D (mtys cI cS) (mcell g cI cS sa) mord g (some (.int o.1)) o.2) (F0 m 46 ls []) := by
  unfold fX12_toHire_b46 at hF
  refine lv_aload_n C.1.1 C.1.2.1 dX12_toHire_46 rfl (lv_at hl 0 rfl) ?_
  refine lv_aload_n C.1.1 C.1.2.1 dX12_toHire_47 rfl (lv_at hl 0 rfl) ?_
  refine m_g46 C X dX12_toHire_48 ?_
  refine lv_iconst (v := 0) C.1.1 C.1.2.1 dX12_toHire_51 (by decide) ?_
  obtain ⟨q1, hq1, hF⟩ := bnd_some hF
  refine m_callV C X vX12_pack rfl (kX12_pack O C.2.2.2.2.1 N 46 0 (rfl : mI 46 = true) S q1 hq1) (Nat.le_of_ble_eq_true rfl) (Nat.le_of_ble_eq_true rfl) (Nat.le_of_ble_eq_true rfl) (Nat.le_of_ble_eq_true rfl) rfl hl.1 rfl (Nat.le_of_ble_eq_true rfl) dX12_toHire_52 (fun H locs X => ?_)
  refine lv_iconst (v := (-1)) C.1.1 C.1.2.1 dX12_toHire_55 (by decide) ?_
  refine lv_istore (lv' := [(4, .int ((-1))), (0, .ref (g 99)), (1, .int x1), (2, .int x2), (3, .int x3)]) C.1.1 C.1.2.1 dX12_toHire_56 hl (by decide) rfl (fun ls hl => ?_)
  refine lv_sipush (v := 1000) C.1.1 C.1.2.1 dX12_toHire_58 (by decide) ?_
  refine lv_istore (lv' := [(5, .int 1000), (4, .int ((-1))), (0, .ref (g 99)), (1, .int x1), (2, .int x2), (3, .int x3)]) C.1.1 C.1.2.1 dX12_toHire_61 hl (by decide) rfl (fun ls hl => ?_)
  refine lv_iconst (v := 0) C.1.1 C.1.2.1 dX12_toHire_63 (by decide) ?_
  refine lv_istore (lv' := [(6, .int 0), (5, .int 1000), (4, .int ((-1))), (0, .ref (g 99)), (1, .int x1), (2, .int x2), (3, .int x3)]) C.1.1 C.1.2.1 dX12_toHire_64 hl (by decide) rfl (fun ls hl => ?_)
  exact hX12_toHire_66 C O N _ _ _ _ _ _ _ _ _ _ X (lv_sub hl [3, 4, 5, 6, 2, 1, 0] rfl) hF
noncomputable def fX12_toHire_b40 (N : Nat) (S : gS) : Option (Int32 × gS) := bnd (fX12_fail N 2 S) fun q1 => (some (q1.1, q1.2))
theorem bX12_toHire_40 {N : Nat} {S : gS} {H : Heap} {locs : List Loc} {ls : Array Slot} {o : Int32 × gS} (C : gC p s m args meth c cX12_toHire 9 RX12 ((some .int)) D (mtys cI cS) mord g Am) (O : gO (mcell g cI cS sa) mord g) (X : gX D (mcell g cI cS sa) mord g S s H locs) (hl : lv_has ls 9 [(0, .ref (g 99))]) (hF : fX12_toHire_b40 N S = some o) : W p l e (rmd 7) s m args below meth c H locs 0 0 (gE below args s D (mtys cI cS) (mcell g cI cS sa) mord g (some (.int o.1)) o.2) (F0 m 40 ls []) := by
  unfold fX12_toHire_b40 at hF
  refine lv_aload_n C.1.1 C.1.2.1 dX12_toHire_40 rfl (lv_at hl 0 rfl) ?_
  refine lv_iconst (v := 2) C.1.1 C.1.2.1 dX12_toHire_41 (by decide) ?_
  obtain ⟨q1, hq1, hF⟩ := bnd_some hF
  refine m_callVi C X vX12_fail rfl (kX12_fail O C.2.2.2.2.1 N 2  S q1 hq1) (Nat.le_of_ble_eq_true rfl) (Nat.le_of_ble_eq_true rfl) (Nat.le_of_ble_eq_true rfl) (Nat.le_of_ble_eq_true rfl) rfl hl.1 rfl (Nat.le_of_ble_eq_true rfl) dX12_toHire_42 (fun H locs X => ?_)
  cases hF
  exact g_iret C X dX12_toHire_45
noncomputable def fX12_toHire_b28 (N : Nat) (x1 : Int32) (x2 : Int32) (x3 : Int32) (S : gS) : Option (Int32 × gS) := bnd (fX12_isIn N (Int32.toInt64 x2) 1 60 S) fun q1 => (if q1.1 = 0 then fX12_toHire_b40 N q1.2 else fX12_toHire_b46 N x1 x2 x3 q1.2)
theorem bX12_toHire_28 {N : Nat} {x1 : Int32} {x2 : Int32} {x3 : Int32} {S : gS} {H : Heap} {locs : List Loc} {ls : Array Slot} {o : Int32 × gS} (C : gC p s m args meth c cX12_toHire 9 RX12 ((some .int)) D (mtys cI cS) mord g Am) (O : gO (mcell g cI cS sa) mord g) (X : gX D (mcell g cI cS sa) mord g S s H locs) (hl : lv_has ls 9 [(0, .ref (g 99)), (1, .int x1), (2, .int x2), (3, .int x3)]) (hF : fX12_toHire_b28 N x1 x2 x3 S = some o) : W p l e (rmd 7) s m args below meth c H locs 0 0 (gE below args s D (mtys cI cS) (mcell g cI cS sa) mord g (some (.int o.1)) o.2) (F0 m 28 ls []) := by
  unfold fX12_toHire_b28 at hF
  refine lv_iload_n C.1.1 C.1.2.1 dX12_toHire_28 rfl (lv_at hl 2 rfl) ?_
  refine lv_i2l (v := Int32.toInt64 x2) C.1.1 C.1.2.1 dX12_toHire_29 rfl ?_
  refine lv_lconst (v := 1) C.1.1 C.1.2.1 dX12_toHire_30 (by decide) ?_
  refine lv_ldc2 C.1.1 C.1.2.1 C.1.2.2.2.1 (C.1.2.2.2.2 _ mKL432) dX12_toHire_31 ?_
  obtain ⟨q1, hq1, hF⟩ := bnd_some hF
  refine g_callSi C X vX12_isIn (kX12_isIn O C.2.2.2.2.1 N (Int32.toInt64 x2) 1 60  S q1 hq1) (Nat.le_of_ble_eq_true rfl) (Nat.le_of_ble_eq_true rfl) (Nat.le_of_ble_eq_true rfl) (Nat.le_of_ble_eq_true rfl) rfl hl.1 rfl (Nat.le_of_ble_eq_true rfl) dX12_toHire_34 (fun H locs X => ?_)
  refine lv_if_ne (tgt := 46) C.1.1 C.1.2.1 dX12_toHire_37 (by decide) (fun h_z => ?_) (fun h_z => ?_)
  · rw [if_neg h_z] at hF
    exact bX12_toHire_46 C O X (lv_sub hl [0, 1, 2, 3] rfl) hF
  · rw [if_pos h_z] at hF
    exact bX12_toHire_40 C O X (lv_sub hl [0] rfl) hF
noncomputable def fX12_toHire_b22 (N : Nat) (S : gS) : Option (Int32 × gS) := bnd (fX12_fail N 1 S) fun q1 => (some (q1.1, q1.2))
theorem bX12_toHire_22 {N : Nat} {S : gS} {H : Heap} {locs : List Loc} {ls : Array Slot} {o : Int32 × gS} (C : gC p s m args meth c cX12_toHire 9 RX12 ((some .int)) D (mtys cI cS) mord g Am) (O : gO (mcell g cI cS sa) mord g) (X : gX D (mcell g cI cS sa) mord g S s H locs) (hl : lv_has ls 9 [(0, .ref (g 99))]) (hF : fX12_toHire_b22 N S = some o) : W p l e (rmd 7) s m args below meth c H locs 0 0 (gE below args s D (mtys cI cS) (mcell g cI cS sa) mord g (some (.int o.1)) o.2) (F0 m 22 ls []) := by
  unfold fX12_toHire_b22 at hF
  refine lv_aload_n C.1.1 C.1.2.1 dX12_toHire_22 rfl (lv_at hl 0 rfl) ?_
  refine lv_iconst (v := 1) C.1.1 C.1.2.1 dX12_toHire_23 (by decide) ?_
  obtain ⟨q1, hq1, hF⟩ := bnd_some hF
  refine m_callVi C X vX12_fail rfl (kX12_fail O C.2.2.2.2.1 N 1  S q1 hq1) (Nat.le_of_ble_eq_true rfl) (Nat.le_of_ble_eq_true rfl) (Nat.le_of_ble_eq_true rfl) (Nat.le_of_ble_eq_true rfl) rfl hl.1 rfl (Nat.le_of_ble_eq_true rfl) dX12_toHire_24 (fun H locs X => ?_)
  cases hF
  exact g_iret C X dX12_toHire_27
noncomputable def fX12_toHire_b17 (N : Nat) (x1 : Int32) (x2 : Int32) (x3 : Int32) (S : gS) : Option (Int32 × gS) := if x3 ≤ 1 then fX12_toHire_b28 N x1 x2 x3 S else fX12_toHire_b22 N S
theorem bX12_toHire_17 {N : Nat} {x1 : Int32} {x2 : Int32} {x3 : Int32} {S : gS} {H : Heap} {locs : List Loc} {ls : Array Slot} {o : Int32 × gS} (C : gC p s m args meth c cX12_toHire 9 RX12 ((some .int)) D (mtys cI cS) mord g Am) (O : gO (mcell g cI cS sa) mord g) (X : gX D (mcell g cI cS sa) mord g S s H locs) (hl : lv_has ls 9 [(0, .ref (g 99)), (1, .int x1), (2, .int x2), (3, .int x3)]) (hF : fX12_toHire_b17 N x1 x2 x3 S = some o) : W p l e (rmd 7) s m args below meth c H locs 0 0 (gE below args s D (mtys cI cS) (mcell g cI cS sa) mord g (some (.int o.1)) o.2) (F0 m 17 ls []) := by
  unfold fX12_toHire_b17 at hF
  refine lv_iload_n C.1.1 C.1.2.1 dX12_toHire_17 rfl (lv_at hl 3 rfl) ?_
  refine lv_iconst (v := 1) C.1.1 C.1.2.1 dX12_toHire_18 (by decide) ?_
  refine lv_icmp_le (tgt := 28) C.1.1 C.1.2.1 dX12_toHire_19 (by decide) (fun h_z => ?_) (fun h_z => ?_)
  · rw [if_pos h_z] at hF
    exact bX12_toHire_28 C O X (lv_sub hl [0, 1, 2, 3] rfl) hF
  · rw [if_neg h_z] at hF
    exact bX12_toHire_22 C O X (lv_sub hl [0] rfl) hF
noncomputable def fX12_toHire_b13 (N : Nat) (x1 : Int32) (x2 : Int32) (x3 : Int32) (S : gS) : Option (Int32 × gS) := if x3 < 0 then fX12_toHire_b22 N S else fX12_toHire_b17 N x1 x2 x3 S
theorem bX12_toHire_13 {N : Nat} {x1 : Int32} {x2 : Int32} {x3 : Int32} {S : gS} {H : Heap} {locs : List Loc} {ls : Array Slot} {o : Int32 × gS} (C : gC p s m args meth c cX12_toHire 9 RX12 ((some .int)) D (mtys cI cS) mord g Am) (O : gO (mcell g cI cS sa) mord g) (X : gX D (mcell g cI cS sa) mord g S s H locs) (hl : lv_has ls 9 [(0, .ref (g 99)), (1, .int x1), (2, .int x2), (3, .int x3)]) (hF : fX12_toHire_b13 N x1 x2 x3 S = some o) : W p l e (rmd 7) s m args below meth c H locs 0 0 (gE below args s D (mtys cI cS) (mcell g cI cS sa) mord g (some (.int o.1)) o.2) (F0 m 13 ls []) := by
  unfold fX12_toHire_b13 at hF
  refine lv_iload_n C.1.1 C.1.2.1 dX12_toHire_13 rfl (lv_at hl 3 rfl) ?_
  refine lv_if_lt (tgt := 22) C.1.1 C.1.2.1 dX12_toHire_14 (by decide) (fun h_z => ?_) (fun h_z => ?_)
  · rw [if_pos h_z] at hF
    exact bX12_toHire_22 C O X (lv_sub hl [0] rfl) hF
  · rw [if_neg h_z] at hF
    exact bX12_toHire_17 C O X (lv_sub hl [0, 1, 2, 3] rfl) hF
noncomputable def fX12_toHire_b0 (N : Nat) (x1 : Int32) (x2 : Int32) (x3 : Int32) (S : gS) : Option (Int32 × gS) := lt (sU S 99 4 0) fun S1 => (bnd (fX12_isGuild N x1 S1) fun q1 => (if q1.1 = 0 then fX12_toHire_b22 N q1.2 else fX12_toHire_b13 N x1 x2 x3 q1.2))
theorem bX12_toHire_0 {N : Nat} {x1 : Int32} {x2 : Int32} {x3 : Int32} {S : gS} {H : Heap} {locs : List Loc} {ls : Array Slot} {o : Int32 × gS} (C : gC p s m args meth c cX12_toHire 9 RX12 ((some .int)) D (mtys cI cS) mord g Am) (O : gO (mcell g cI cS sa) mord g) (X : gX D (mcell g cI cS sa) mord g S s H locs) (hl : lv_has ls 9 [(0, .ref (g 99)), (1, .int x1), (2, .int x2), (3, .int x3)]) (hF : fX12_toHire_b0 N x1 x2 x3 S = some o) : W p l e (rmd 7) s m args below meth c H locs 0 0 (gE below args s D (mtys cI cS) (mcell g cI cS sa) mord g (some (.int o.1)) o.2) (F0 m 0 ls []) := by
  unfold fX12_toHire_b0 at hF
  refine lv_aload_n C.1.1 C.1.2.1 dX12_toHire_0 rfl (lv_at hl 0 rfl) ?_
  refine lv_iconst (v := 0) C.1.1 C.1.2.1 dX12_toHire_1 (by decide) ?_
  obtain ⟨S1, eS1, hF⟩ := lt_some hF
  refine m_p4 C O X eS1 dX12_toHire_2 (fun H locs X => ?_)
  refine lv_aload_n C.1.1 C.1.2.1 dX12_toHire_5 rfl (lv_at hl 0 rfl) ?_
  refine lv_iload_n C.1.1 C.1.2.1 dX12_toHire_6 rfl (lv_at hl 1 rfl) ?_
  obtain ⟨q1, hq1, hF⟩ := bnd_some hF
  refine m_callVi C X vX12_isGuild rfl (kX12_isGuild O C.2.2.2.2.1 N x1  S1 q1 hq1) (Nat.le_of_ble_eq_true rfl) (Nat.le_of_ble_eq_true rfl) (Nat.le_of_ble_eq_true rfl) (Nat.le_of_ble_eq_true rfl) rfl hl.1 rfl (Nat.le_of_ble_eq_true rfl) dX12_toHire_7 (fun H locs X => ?_)
  refine lv_if_eq (tgt := 22) C.1.1 C.1.2.1 dX12_toHire_10 (by decide) (fun h_z => ?_) (fun h_z => ?_)
  · rw [if_pos h_z] at hF
    exact bX12_toHire_22 C O X (lv_sub hl [0] rfl) hF
  · rw [if_neg h_z] at hF
    exact bX12_toHire_13 C O X (lv_sub hl [0, 1, 2, 3] rfl) hF
noncomputable def fX12_toHire (N : Nat) (x1 : Int32) (x2 : Int32) (x3 : Int32) (S : gS) : Option (Int32 × gS) := fX12_toHire_b0 N x1 x2 x3 S
theorem kX12_toHire {l : Launch} {D : va_G} {g : Nat → Nat} {cI cS : ClassId} {sa : Nat → Nat → Option Nat} {Am : (Nat → Prop) → State → Heap → Prop} (O : gO (mcell g cI cS sa) mord g) (P : gAm Am) (N : Nat) (x1 : Int32) (x2 : Int32) (x3 : Int32) (S : gS) (o : Int32 × gS) (hF : fX12_toHire N x1 x2 x3 S = some o) : gM l yX12_toHire cX12_toHire 9 ((some .int)) 7 D (mtys cI cS) (mcell g cI cS sa) mord g Am [.ref (g 99), .int x1, .int x2, .int x3] S (some (.int o.1)) o.2 :=
  gM_of O P (by decide) (Nat.le_of_ble_eq_true rfl) (fun p e s m args below meth c ls C X hl => bX12_toHire_0 C O X (lv_sub hl [0, 1, 2, 3] rfl) hF)
-- mayHave
noncomputable def fX12_mayHave_b31 (N : Nat) (t0 : Int32) (S : gS) : Option (Int32 × gS) := chk (zb t0) (some (t0, S))
theorem bX12_mayHave_31 {N : Nat} {t0 : Int32} {S : gS} {H : Heap} {locs : List Loc} {ls : Array Slot} {o : Int32 × gS} (C : gC p s m args meth c cX12_mayHave 4 RX12 ((some .boolean)) D (mtys cI cS) mord g Am) (O : gO (mcell g cI cS sa) mord g) (X : gX D (mcell g cI cS sa) mord g S s H locs) (hl : lv_has ls 4 []) (hF : fX12_mayHave_b31 N t0 S = some o) : W p l e (rmd 1) s m args below meth c H locs 0 0 (gE below args s D (mtys cI cS) (mcell g cI cS sa) mord g (some (.int o.1)) o.2) (F0 m 31 ls [.int t0]) := by
  unfold fX12_mayHave_b31 at hF
  obtain ⟨h_1, hF⟩ := chk_some hF
  cases hF
  exact g_zret C X h_1 dX12_mayHave_31
noncomputable def fX12_mayHave_b30 (N : Nat) (S : gS) : Option (Int32 × gS) := fX12_mayHave_b31 N 0 S
theorem bX12_mayHave_30 {N : Nat} {S : gS} {H : Heap} {locs : List Loc} {ls : Array Slot} {o : Int32 × gS} (C : gC p s m args meth c cX12_mayHave 4 RX12 ((some .boolean)) D (mtys cI cS) mord g Am) (O : gO (mcell g cI cS sa) mord g) (X : gX D (mcell g cI cS sa) mord g S s H locs) (hl : lv_has ls 4 []) (hF : fX12_mayHave_b30 N S = some o) : W p l e (rmd 1) s m args below meth c H locs 0 0 (gE below args s D (mtys cI cS) (mcell g cI cS sa) mord g (some (.int o.1)) o.2) (F0 m 30 ls []) := by
  unfold fX12_mayHave_b30 at hF
  refine lv_iconst (v := 0) C.1.1 C.1.2.1 dX12_mayHave_30 (by decide) ?_
  exact bX12_mayHave_31 C O X (lv_sub hl [] rfl) hF
noncomputable def fX12_mayHave_b26 (N : Nat) (S : gS) : Option (Int32 × gS) := fX12_mayHave_b31 N 1 S
theorem bX12_mayHave_26 {N : Nat} {S : gS} {H : Heap} {locs : List Loc} {ls : Array Slot} {o : Int32 × gS} (C : gC p s m args meth c cX12_mayHave 4 RX12 ((some .boolean)) D (mtys cI cS) mord g Am) (O : gO (mcell g cI cS sa) mord g) (X : gX D (mcell g cI cS sa) mord g S s H locs) (hl : lv_has ls 4 []) (hF : fX12_mayHave_b26 N S = some o) : W p l e (rmd 1) s m args below meth c H locs 0 0 (gE below args s D (mtys cI cS) (mcell g cI cS sa) mord g (some (.int o.1)) o.2) (F0 m 26 ls []) := by
  unfold fX12_mayHave_b26 at hF
  refine lv_iconst (v := 1) C.1.1 C.1.2.1 dX12_mayHave_26 (by decide) ?_
  refine lv_goto (tgt := 31) C.1.1 C.1.2.1 dX12_mayHave_27 (by decide) ?_
  exact bX12_mayHave_31 C O X (lv_sub hl [] rfl) hF
noncomputable def fX12_mayHave_b8 (N : Nat) (x1 : Int32) (x3 : Int32) (S : gS) : Option (Int32 × gS) := chk (inb x1 (6)) (chk (inb x3 (16)) (if (S 33 (Int32.toNatClampNeg x1)) < ((10 * (S 9 (Int32.toNatClampNeg x3)) : Int32)) then fX12_mayHave_b30 N S else fX12_mayHave_b26 N S))
theorem bX12_mayHave_8 {N : Nat} {x1 : Int32} {x3 : Int32} {S : gS} {H : Heap} {locs : List Loc} {ls : Array Slot} {o : Int32 × gS} (C : gC p s m args meth c cX12_mayHave 4 RX12 ((some .boolean)) D (mtys cI cS) mord g Am) (O : gO (mcell g cI cS sa) mord g) (X : gX D (mcell g cI cS sa) mord g S s H locs) (hl : lv_has ls 4 [(0, .ref (g 99)), (1, .int x1), (3, .int x3)]) (hF : fX12_mayHave_b8 N x1 x3 S = some o) : W p l e (rmd 1) s m args below meth c H locs 0 0 (gE below args s D (mtys cI cS) (mcell g cI cS sa) mord g (some (.int o.1)) o.2) (F0 m 8 ls []) := by
  unfold fX12_mayHave_b8 at hF
  refine lv_aload_n C.1.1 C.1.2.1 dX12_mayHave_8 rfl (lv_at hl 0 rfl) ?_
  refine m_g33 C X dX12_mayHave_9 ?_
  refine lv_iload_n C.1.1 C.1.2.1 dX12_mayHave_12 rfl (lv_at hl 1 rfl) ?_
  obtain ⟨h_1, hF⟩ := chk_some hF
  refine m_r33 C X  (inb_vp h_1) rfl dX12_mayHave_13 ?_
  refine lv_bipush (v := 10) C.1.1 C.1.2.1 dX12_mayHave_14 (by decide) ?_
  refine lv_aload_n C.1.1 C.1.2.1 dX12_mayHave_16 rfl (lv_at hl 0 rfl) ?_
  refine m_g9 C X dX12_mayHave_17 ?_
  refine lv_iload_n C.1.1 C.1.2.1 dX12_mayHave_20 rfl (lv_at hl 2 rfl) ?_
  obtain ⟨h_2, hF⟩ := chk_some hF
  refine m_r9 C X  (inb_vp h_2) rfl dX12_mayHave_21 ?_
  refine lv_imul C.1.1 C.1.2.1 dX12_mayHave_22 ?_
  refine lv_icmp_lt (tgt := 30) C.1.1 C.1.2.1 dX12_mayHave_23 (by decide) (fun h_z => ?_) (fun h_z => ?_)
  · rw [if_pos h_z] at hF
    exact bX12_mayHave_30 C O X (lv_sub hl [] rfl) hF
  · rw [if_neg h_z] at hF
    exact bX12_mayHave_26 C O X (lv_sub hl [] rfl) hF
noncomputable def fX12_mayHave_b0 (N : Nat) (x1 : Int32) (x2 : Int32) (x3 : Int32) (S : gS) : Option (Int32 × gS) := bnd (fX12_isOf N x2 x3 S) fun q1 => (if q1.1 = 0 then fX12_mayHave_b8 N x1 x3 q1.2 else fX12_mayHave_b30 N q1.2)
theorem bX12_mayHave_0 {N : Nat} {x1 : Int32} {x2 : Int32} {x3 : Int32} {S : gS} {H : Heap} {locs : List Loc} {ls : Array Slot} {o : Int32 × gS} (C : gC p s m args meth c cX12_mayHave 4 RX12 ((some .boolean)) D (mtys cI cS) mord g Am) (O : gO (mcell g cI cS sa) mord g) (X : gX D (mcell g cI cS sa) mord g S s H locs) (hl : lv_has ls 4 [(0, .ref (g 99)), (1, .int x1), (2, .int x2), (3, .int x3)]) (hF : fX12_mayHave_b0 N x1 x2 x3 S = some o) : W p l e (rmd 1) s m args below meth c H locs 0 0 (gE below args s D (mtys cI cS) (mcell g cI cS sa) mord g (some (.int o.1)) o.2) (F0 m 0 ls []) := by
  unfold fX12_mayHave_b0 at hF
  refine lv_iload_n C.1.1 C.1.2.1 dX12_mayHave_0 rfl (lv_at hl 2 rfl) ?_
  refine lv_iload_n C.1.1 C.1.2.1 dX12_mayHave_1 rfl (lv_at hl 3 rfl) ?_
  obtain ⟨q1, hq1, hF⟩ := bnd_some hF
  refine g_callSi C X vX12_isOf (kX12_isOf O C.2.2.2.2.1 N x2 x3  S q1 hq1) (Nat.le_of_ble_eq_true rfl) (Nat.le_of_ble_eq_true rfl) (Nat.le_of_ble_eq_true rfl) (Nat.le_of_ble_eq_true rfl) rfl hl.1 rfl (Nat.le_of_ble_eq_true rfl) dX12_mayHave_2 (fun H locs X => ?_)
  refine lv_if_ne (tgt := 30) C.1.1 C.1.2.1 dX12_mayHave_5 (by decide) (fun h_z => ?_) (fun h_z => ?_)
  · rw [if_neg h_z] at hF
    exact bX12_mayHave_30 C O X (lv_sub hl [] rfl) hF
  · rw [if_pos h_z] at hF
    exact bX12_mayHave_8 C O X (lv_sub hl [0, 1, 3] rfl) hF
noncomputable def fX12_mayHave (N : Nat) (x1 : Int32) (x2 : Int32) (x3 : Int32) (S : gS) : Option (Int32 × gS) := fX12_mayHave_b0 N x1 x2 x3 S
theorem kX12_mayHave {l : Launch} {D : va_G} {g : Nat → Nat} {cI cS : ClassId} {sa : Nat → Nat → Option Nat} {Am : (Nat → Prop) → State → Heap → Prop} (O : gO (mcell g cI cS sa) mord g) (P : gAm Am) (N : Nat) (x1 : Int32) (x2 : Int32) (x3 : Int32) (S : gS) (o : Int32 × gS) (hF : fX12_mayHave N x1 x2 x3 S = some o) : gM l yX12_mayHave cX12_mayHave 4 ((some .boolean)) 1 D (mtys cI cS) (mcell g cI cS sa) mord g Am [.ref (g 99), .int x1, .int x2, .int x3] S (some (.int o.1)) o.2 :=
  gM_of O P (by decide) (Nat.le_of_ble_eq_true rfl) (fun p e s m args below meth c ls C X hl => bX12_mayHave_0 C O X (lv_sub hl [0, 1, 2, 3] rfl) hF)
-- with
noncomputable def fX12_with_b0 (N : Nat) (x1 : Int32) (x2 : Int32) (x3 : Int32) (S : gS) : Option (Int32 × gS) := chk (inb x3 (16)) (chk (inb ((((((x1 + 1 : Int32)) <<< ((8 : Int32) &&& 31) : Int32)) + ((x2 ||| (((1 : Int32) <<< (x3 &&& 31) : Int32)) : Int32)) : Int32)) (1792)) (some (((S 9 (Int32.toNatClampNeg x3)) + (S 47 (Int32.toNatClampNeg ((((((x1 + 1 : Int32)) <<< ((8 : Int32) &&& 31) : Int32)) + ((x2 ||| (((1 : Int32) <<< (x3 &&& 31) : Int32)) : Int32)) : Int32)))) : Int32), S)))
theorem bX12_with_0 {N : Nat} {x1 : Int32} {x2 : Int32} {x3 : Int32} {S : gS} {H : Heap} {locs : List Loc} {ls : Array Slot} {o : Int32 × gS} (C : gC p s m args meth c cX12_with 4 RX12 ((some .int)) D (mtys cI cS) mord g Am) (O : gO (mcell g cI cS sa) mord g) (X : gX D (mcell g cI cS sa) mord g S s H locs) (hl : lv_has ls 4 [(0, .ref (g 99)), (1, .int x1), (2, .int x2), (3, .int x3)]) (hF : fX12_with_b0 N x1 x2 x3 S = some o) : W p l e (rmd 0) s m args below meth c H locs 0 0 (gE below args s D (mtys cI cS) (mcell g cI cS sa) mord g (some (.int o.1)) o.2) (F0 m 0 ls []) := by
  unfold fX12_with_b0 at hF
  refine lv_aload_n C.1.1 C.1.2.1 dX12_with_0 rfl (lv_at hl 0 rfl) ?_
  refine m_g9 C X dX12_with_1 ?_
  refine lv_iload_n C.1.1 C.1.2.1 dX12_with_4 rfl (lv_at hl 3 rfl) ?_
  obtain ⟨h_1, hF⟩ := chk_some hF
  refine m_r9 C X  (inb_vp h_1) rfl dX12_with_5 ?_
  refine lv_aload_n C.1.1 C.1.2.1 dX12_with_6 rfl (lv_at hl 0 rfl) ?_
  refine m_g47 C X dX12_with_7 ?_
  refine lv_iload_n C.1.1 C.1.2.1 dX12_with_10 rfl (lv_at hl 1 rfl) ?_
  refine lv_iconst (v := 1) C.1.1 C.1.2.1 dX12_with_11 (by decide) ?_
  refine lv_iadd C.1.1 C.1.2.1 dX12_with_12 ?_
  refine lv_bipush (v := 8) C.1.1 C.1.2.1 dX12_with_13 (by decide) ?_
  refine lv_ishl C.1.1 C.1.2.1 dX12_with_15 ?_
  refine lv_iload_n C.1.1 C.1.2.1 dX12_with_16 rfl (lv_at hl 2 rfl) ?_
  refine lv_iconst (v := 1) C.1.1 C.1.2.1 dX12_with_17 (by decide) ?_
  refine lv_iload_n C.1.1 C.1.2.1 dX12_with_18 rfl (lv_at hl 3 rfl) ?_
  refine lv_ishl C.1.1 C.1.2.1 dX12_with_19 ?_
  refine lv_ior C.1.1 C.1.2.1 dX12_with_20 ?_
  refine lv_iadd C.1.1 C.1.2.1 dX12_with_21 ?_
  obtain ⟨h_2, hF⟩ := chk_some hF
  refine m_r47 C X  (inb_vp h_2) rfl dX12_with_22 ?_
  refine lv_iadd C.1.1 C.1.2.1 dX12_with_23 ?_
  cases hF
  exact g_iret C X dX12_with_24
noncomputable def fX12_with (N : Nat) (x1 : Int32) (x2 : Int32) (x3 : Int32) (S : gS) : Option (Int32 × gS) := fX12_with_b0 N x1 x2 x3 S
theorem kX12_with {l : Launch} {D : va_G} {g : Nat → Nat} {cI cS : ClassId} {sa : Nat → Nat → Option Nat} {Am : (Nat → Prop) → State → Heap → Prop} (O : gO (mcell g cI cS sa) mord g) (P : gAm Am) (N : Nat) (x1 : Int32) (x2 : Int32) (x3 : Int32) (S : gS) (o : Int32 × gS) (hF : fX12_with N x1 x2 x3 S = some o) : gM l yX12_with cX12_with 4 ((some .int)) 0 D (mtys cI cS) (mcell g cI cS sa) mord g Am [.ref (g 99), .int x1, .int x2, .int x3] S (some (.int o.1)) o.2 :=
  gM_of O P (by decide) (Nat.le_of_ble_eq_true rfl) (fun p e s m args below meth c ls C X hl => bX12_with_0 C O X (lv_sub hl [0, 1, 2, 3] rfl) hF)
-- tellLeast
noncomputable def fX12_tellLeast_b149 (N : Nat) (S : gS) : Option (Int32 × gS) := some (0, S)
theorem bX12_tellLeast_149 {N : Nat} {S : gS} {H : Heap} {locs : List Loc} {ls : Array Slot} {o : Int32 × gS} (C : gC p s m args meth c cX12_tellLeast 6 RX12 none D (mtys cI cS) mord g Am) (O : gO (mcell g cI cS sa) mord g) (X : gX D (mcell g cI cS sa) mord g S s H locs) (hl : lv_has ls 6 []) (hF : fX12_tellLeast_b149 N S = some o) : W p l e (rmd 2) s m args below meth c H locs 0 0 (gE below args s D (mtys cI cS) (mcell g cI cS sa) mord g none o.2) (F0 m 149 ls []) := by
  unfold fX12_tellLeast_b149 at hF
  cases hF
  exact g_vret C X dX12_tellLeast_149
noncomputable def fX12_tellLeast_b143 (N : Nat) (r48 : Int32 → Int32 → gS → Option (Int32 × gS)) (x1 : Int32) (x2 : Int32) (S : gS) : Option (Int32 × gS) := r48 x1 ((x2 + (-1) : Int32)) S
theorem bX12_tellLeast_143 {N : Nat} {r48 : Int32 → Int32 → gS → Option (Int32 × gS)} {x1 : Int32} {x2 : Int32} {S : gS} {H : Heap} {locs : List Loc} {ls : Array Slot} {o : Int32 × gS} (C : gC p s m args meth c cX12_tellLeast 6 RX12 none D (mtys cI cS) mord g Am) (O : gO (mcell g cI cS sa) mord g) (K48 : ∀ (x1 : Int32) (x2 : Int32) (S : gS) (H : Heap) (locs : List Loc) (ls : Array Slot), gX D (mcell g cI cS sa) mord g S s H locs → lv_has ls 6 [(0, .ref (g 99)), (1, .int x1), (2, .int x2)] → r48 x1 x2 S = some o → W p l e (rmd 2) s m args below meth c H locs 0 0 (gE below args s D (mtys cI cS) (mcell g cI cS sa) mord g none o.2) (F0 m 48 ls [])) (X : gX D (mcell g cI cS sa) mord g S s H locs) (hl : lv_has ls 6 [(0, .ref (g 99)), (1, .int x1), (2, .int x2)]) (hF : fX12_tellLeast_b143 N r48 x1 x2 S = some o) : W p l e (rmd 2) s m args below meth c H locs 0 0 (gE below args s D (mtys cI cS) (mcell g cI cS sa) mord g none o.2) (F0 m 143 ls []) := by
  unfold fX12_tellLeast_b143 at hF
  refine lv_iinc (v := (x2 + (-1) : Int32)) (lv' := [(2, .int ((x2 + (-1) : Int32))), (0, .ref (g 99)), (1, .int x1)]) C.1.1 C.1.2.1 dX12_tellLeast_143 hl (k := 2) rfl rfl (by decide) rfl (fun ls hl => ?_)
  refine lv_goto (tgt := 48) C.1.1 C.1.2.1 dX12_tellLeast_146 (by decide) ?_
  exact K48 _ _ _ _ _ _ X (lv_sub hl [1, 2, 0] rfl) hF
noncomputable def fX12_tellLeast_b124 (N : Nat) (r48 : Int32 → Int32 → gS → Option (Int32 × gS)) (r54 : Int32 → Int32 → Int32 → gS → Option (Int32 × gS)) (x1 : Int32) (x2 : Int32) (x3 : Int32) (x4 : Int32) (S : gS) : Option (Int32 × gS) := chk (inb ((((x2 <<< ((8 : Int32) &&& 31) : Int32)) + x3 : Int32)) (1792)) (lt (sU S 47 (Int32.toNatClampNeg ((((x2 <<< ((8 : Int32) &&& 31) : Int32)) + x3 : Int32))) x4) fun S1 => (r54 x1 x2 ((x3 + 1 : Int32)) S1))
theorem bX12_tellLeast_124 {N : Nat} {r48 : Int32 → Int32 → gS → Option (Int32 × gS)} {r54 : Int32 → Int32 → Int32 → gS → Option (Int32 × gS)} {x1 : Int32} {x2 : Int32} {x3 : Int32} {x4 : Int32} {S : gS} {H : Heap} {locs : List Loc} {ls : Array Slot} {o : Int32 × gS} (C : gC p s m args meth c cX12_tellLeast 6 RX12 none D (mtys cI cS) mord g Am) (O : gO (mcell g cI cS sa) mord g) (K48 : ∀ (x1 : Int32) (x2 : Int32) (S : gS) (H : Heap) (locs : List Loc) (ls : Array Slot), gX D (mcell g cI cS sa) mord g S s H locs → lv_has ls 6 [(0, .ref (g 99)), (1, .int x1), (2, .int x2)] → r48 x1 x2 S = some o → W p l e (rmd 2) s m args below meth c H locs 0 0 (gE below args s D (mtys cI cS) (mcell g cI cS sa) mord g none o.2) (F0 m 48 ls [])) (K54 : ∀ (x1 : Int32) (x2 : Int32) (x3 : Int32) (S : gS) (H : Heap) (locs : List Loc) (ls : Array Slot), gX D (mcell g cI cS sa) mord g S s H locs → lv_has ls 6 [(0, .ref (g 99)), (1, .int x1), (2, .int x2), (3, .int x3)] → r54 x1 x2 x3 S = some o → W p l e (rmd 2) s m args below meth c H locs 0 0 (gE below args s D (mtys cI cS) (mcell g cI cS sa) mord g none o.2) (F0 m 54 ls [])) (X : gX D (mcell g cI cS sa) mord g S s H locs) (hl : lv_has ls 6 [(0, .ref (g 99)), (1, .int x1), (2, .int x2), (3, .int x3), (4, .int x4)]) (hF : fX12_tellLeast_b124 N r48 r54 x1 x2 x3 x4 S = some o) : W p l e (rmd 2) s m args below meth c H locs 0 0 (gE below args s D (mtys cI cS) (mcell g cI cS sa) mord g none o.2) (F0 m 124 ls []) := by
  unfold fX12_tellLeast_b124 at hF
  refine lv_aload_n C.1.1 C.1.2.1 dX12_tellLeast_124 rfl (lv_at hl 0 rfl) ?_
  refine m_g47 C X dX12_tellLeast_125 ?_
  refine lv_iload_n C.1.1 C.1.2.1 dX12_tellLeast_128 rfl (lv_at hl 2 rfl) ?_
  refine lv_bipush (v := 8) C.1.1 C.1.2.1 dX12_tellLeast_129 (by decide) ?_
  refine lv_ishl C.1.1 C.1.2.1 dX12_tellLeast_131 ?_
  refine lv_iload_n C.1.1 C.1.2.1 dX12_tellLeast_132 rfl (lv_at hl 3 rfl) ?_
  refine lv_iadd C.1.1 C.1.2.1 dX12_tellLeast_133 ?_
  refine lv_iload C.1.1 C.1.2.1 dX12_tellLeast_134 (lv_at hl 4 rfl) ?_
  obtain ⟨h_1, hF⟩ := chk_some hF
  obtain ⟨S1, eS1, hF⟩ := lt_some hF
  refine m_w47 C O X  (inb_vp h_1) rfl eS1 dX12_tellLeast_136 (fun H locs X => ?_)
  refine lv_iinc (v := (x3 + 1 : Int32)) (lv' := [(3, .int ((x3 + 1 : Int32))), (0, .ref (g 99)), (1, .int x1), (2, .int x2), (4, .int x4)]) C.1.1 C.1.2.1 dX12_tellLeast_137 hl (k := 3) rfl rfl (by decide) rfl (fun ls hl => ?_)
  refine lv_goto (tgt := 54) C.1.1 C.1.2.1 dX12_tellLeast_140 (by decide) ?_
  exact K54 _ _ _ _ _ _ _ X (lv_sub hl [1, 2, 3, 0] rfl) hF
noncomputable def fX12_tellLeast_b118 (N : Nat) (r48 : Int32 → Int32 → gS → Option (Int32 × gS)) (r54 : Int32 → Int32 → Int32 → gS → Option (Int32 × gS)) (r81 : Int32 → Int32 → Int32 → Int32 → Int32 → gS → Option (Int32 × gS)) (x1 : Int32) (x2 : Int32) (x3 : Int32) (x4 : Int32) (x5 : Int32) (S : gS) : Option (Int32 × gS) := r81 x1 x2 x3 x4 ((x5 + 1 : Int32)) S
theorem bX12_tellLeast_118 {N : Nat} {r48 : Int32 → Int32 → gS → Option (Int32 × gS)} {r54 : Int32 → Int32 → Int32 → gS → Option (Int32 × gS)} {r81 : Int32 → Int32 → Int32 → Int32 → Int32 → gS → Option (Int32 × gS)} {x1 : Int32} {x2 : Int32} {x3 : Int32} {x4 : Int32} {x5 : Int32} {S : gS} {H : Heap} {locs : List Loc} {ls : Array Slot} {o : Int32 × gS} (C : gC p s m args meth c cX12_tellLeast 6 RX12 none D (mtys cI cS) mord g Am) (O : gO (mcell g cI cS sa) mord g) (K48 : ∀ (x1 : Int32) (x2 : Int32) (S : gS) (H : Heap) (locs : List Loc) (ls : Array Slot), gX D (mcell g cI cS sa) mord g S s H locs → lv_has ls 6 [(0, .ref (g 99)), (1, .int x1), (2, .int x2)] → r48 x1 x2 S = some o → W p l e (rmd 2) s m args below meth c H locs 0 0 (gE below args s D (mtys cI cS) (mcell g cI cS sa) mord g none o.2) (F0 m 48 ls [])) (K54 : ∀ (x1 : Int32) (x2 : Int32) (x3 : Int32) (S : gS) (H : Heap) (locs : List Loc) (ls : Array Slot), gX D (mcell g cI cS sa) mord g S s H locs → lv_has ls 6 [(0, .ref (g 99)), (1, .int x1), (2, .int x2), (3, .int x3)] → r54 x1 x2 x3 S = some o → W p l e (rmd 2) s m args below meth c H locs 0 0 (gE below args s D (mtys cI cS) (mcell g cI cS sa) mord g none o.2) (F0 m 54 ls [])) (K81 : ∀ (x1 : Int32) (x2 : Int32) (x3 : Int32) (x4 : Int32) (x5 : Int32) (S : gS) (H : Heap) (locs : List Loc) (ls : Array Slot), gX D (mcell g cI cS sa) mord g S s H locs → lv_has ls 6 [(0, .ref (g 99)), (1, .int x1), (2, .int x2), (3, .int x3), (4, .int x4), (5, .int x5)] → r81 x1 x2 x3 x4 x5 S = some o → W p l e (rmd 2) s m args below meth c H locs 0 0 (gE below args s D (mtys cI cS) (mcell g cI cS sa) mord g none o.2) (F0 m 81 ls [])) (X : gX D (mcell g cI cS sa) mord g S s H locs) (hl : lv_has ls 6 [(0, .ref (g 99)), (1, .int x1), (2, .int x2), (3, .int x3), (4, .int x4), (5, .int x5)]) (hF : fX12_tellLeast_b118 N r48 r54 r81 x1 x2 x3 x4 x5 S = some o) : W p l e (rmd 2) s m args below meth c H locs 0 0 (gE below args s D (mtys cI cS) (mcell g cI cS sa) mord g none o.2) (F0 m 118 ls []) := by
  unfold fX12_tellLeast_b118 at hF
  refine lv_iinc (v := (x5 + 1 : Int32)) (lv' := [(5, .int ((x5 + 1 : Int32))), (0, .ref (g 99)), (1, .int x1), (2, .int x2), (3, .int x3), (4, .int x4)]) C.1.1 C.1.2.1 dX12_tellLeast_118 hl (k := 5) rfl rfl (by decide) rfl (fun ls hl => ?_)
  refine lv_goto (tgt := 81) C.1.1 C.1.2.1 dX12_tellLeast_121 (by decide) ?_
  exact K81 _ _ _ _ _ _ _ _ _ X (lv_sub hl [1, 2, 3, 4, 5, 0] rfl) hF
noncomputable def fX12_tellLeast_b103 (N : Nat) (r48 : Int32 → Int32 → gS → Option (Int32 × gS)) (r54 : Int32 → Int32 → Int32 → gS → Option (Int32 × gS)) (r81 : Int32 → Int32 → Int32 → Int32 → Int32 → gS → Option (Int32 × gS)) (x1 : Int32) (x2 : Int32) (x3 : Int32) (x4 : Int32) (x5 : Int32) (S : gS) : Option (Int32 × gS) := bnd (fX12_with N x2 x3 x5 S) fun q1 => (fX12_tellLeast_b118 N r48 r54 r81 x1 x2 x3 (if q1.1 < x4 then q1.1 else x4) x5 q1.2)
theorem bX12_tellLeast_103 {N : Nat} {r48 : Int32 → Int32 → gS → Option (Int32 × gS)} {r54 : Int32 → Int32 → Int32 → gS → Option (Int32 × gS)} {r81 : Int32 → Int32 → Int32 → Int32 → Int32 → gS → Option (Int32 × gS)} {x1 : Int32} {x2 : Int32} {x3 : Int32} {x4 : Int32} {x5 : Int32} {S : gS} {H : Heap} {locs : List Loc} {ls : Array Slot} {o : Int32 × gS} (C : gC p s m args meth c cX12_tellLeast 6 RX12 none D (mtys cI cS) mord g Am) (O : gO (mcell g cI cS sa) mord g) (K48 : ∀ (x1 : Int32) (x2 : Int32) (S : gS) (H : Heap) (locs : List Loc) (ls : Array Slot), gX D (mcell g cI cS sa) mord g S s H locs → lv_has ls 6 [(0, .ref (g 99)), (1, .int x1), (2, .int x2)] → r48 x1 x2 S = some o → W p l e (rmd 2) s m args below meth c H locs 0 0 (gE below args s D (mtys cI cS) (mcell g cI cS sa) mord g none o.2) (F0 m 48 ls [])) (K54 : ∀ (x1 : Int32) (x2 : Int32) (x3 : Int32) (S : gS) (H : Heap) (locs : List Loc) (ls : Array Slot), gX D (mcell g cI cS sa) mord g S s H locs → lv_has ls 6 [(0, .ref (g 99)), (1, .int x1), (2, .int x2), (3, .int x3)] → r54 x1 x2 x3 S = some o → W p l e (rmd 2) s m args below meth c H locs 0 0 (gE below args s D (mtys cI cS) (mcell g cI cS sa) mord g none o.2) (F0 m 54 ls [])) (K81 : ∀ (x1 : Int32) (x2 : Int32) (x3 : Int32) (x4 : Int32) (x5 : Int32) (S : gS) (H : Heap) (locs : List Loc) (ls : Array Slot), gX D (mcell g cI cS sa) mord g S s H locs → lv_has ls 6 [(0, .ref (g 99)), (1, .int x1), (2, .int x2), (3, .int x3), (4, .int x4), (5, .int x5)] → r81 x1 x2 x3 x4 x5 S = some o → W p l e (rmd 2) s m args below meth c H locs 0 0 (gE below args s D (mtys cI cS) (mcell g cI cS sa) mord g none o.2) (F0 m 81 ls [])) (X : gX D (mcell g cI cS sa) mord g S s H locs) (hl : lv_has ls 6 [(0, .ref (g 99)), (1, .int x1), (2, .int x2), (3, .int x3), (4, .int x4), (5, .int x5)]) (hF : fX12_tellLeast_b103 N r48 r54 r81 x1 x2 x3 x4 x5 S = some o) : W p l e (rmd 2) s m args below meth c H locs 0 0 (gE below args s D (mtys cI cS) (mcell g cI cS sa) mord g none o.2) (F0 m 103 ls []) := by
  unfold fX12_tellLeast_b103 at hF
  refine lv_iload C.1.1 C.1.2.1 dX12_tellLeast_103 (lv_at hl 4 rfl) ?_
  refine lv_aload_n C.1.1 C.1.2.1 dX12_tellLeast_105 rfl (lv_at hl 0 rfl) ?_
  refine lv_iload_n C.1.1 C.1.2.1 dX12_tellLeast_106 rfl (lv_at hl 2 rfl) ?_
  refine lv_iload_n C.1.1 C.1.2.1 dX12_tellLeast_107 rfl (lv_at hl 3 rfl) ?_
  refine lv_iload C.1.1 C.1.2.1 dX12_tellLeast_108 (lv_at hl 5 rfl) ?_
  obtain ⟨q1, hq1, hF⟩ := bnd_some hF
  refine m_callVi C X vX12_with rfl (kX12_with O C.2.2.2.2.1 N x2 x3 x5  S q1 hq1) (Nat.le_of_ble_eq_true rfl) (Nat.le_of_ble_eq_true rfl) (Nat.le_of_ble_eq_true rfl) (Nat.le_of_ble_eq_true rfl) rfl hl.1 rfl (Nat.le_of_ble_eq_true rfl) dX12_tellLeast_110 (fun H locs X => ?_)
  refine g_min C hl.1 mMmin192 ⟨Nat.le_of_ble_eq_true rfl, Nat.le_of_ble_eq_true rfl⟩ (Nat.le_of_ble_eq_true rfl) (Nat.le_of_ble_eq_true rfl) dX12_tellLeast_113 ?_
  refine lv_istore (lv' := [(4, .int (if q1.1 < x4 then q1.1 else x4)), (0, .ref (g 99)), (1, .int x1), (2, .int x2), (3, .int x3), (5, .int x5)]) C.1.1 C.1.2.1 dX12_tellLeast_116 hl (by decide) rfl (fun ls hl => ?_)
  exact bX12_tellLeast_118 C O K48 K54 K81 X (lv_sub hl [1, 2, 3, 4, 0, 5] rfl) hF
noncomputable def fX12_tellLeast_b92 (N : Nat) (r48 : Int32 → Int32 → gS → Option (Int32 × gS)) (r54 : Int32 → Int32 → Int32 → gS → Option (Int32 × gS)) (r81 : Int32 → Int32 → Int32 → Int32 → Int32 → gS → Option (Int32 × gS)) (x1 : Int32) (x2 : Int32) (x3 : Int32) (x4 : Int32) (x5 : Int32) (S : gS) : Option (Int32 × gS) := bnd (fX12_mayHave N x2 x3 x5 S) fun q1 => (if q1.1 = 0 then fX12_tellLeast_b118 N r48 r54 r81 x1 x2 x3 x4 x5 q1.2 else fX12_tellLeast_b103 N r48 r54 r81 x1 x2 x3 x4 x5 q1.2)
theorem bX12_tellLeast_92 {N : Nat} {r48 : Int32 → Int32 → gS → Option (Int32 × gS)} {r54 : Int32 → Int32 → Int32 → gS → Option (Int32 × gS)} {r81 : Int32 → Int32 → Int32 → Int32 → Int32 → gS → Option (Int32 × gS)} {x1 : Int32} {x2 : Int32} {x3 : Int32} {x4 : Int32} {x5 : Int32} {S : gS} {H : Heap} {locs : List Loc} {ls : Array Slot} {o : Int32 × gS} (C : gC p s m args meth c cX12_tellLeast 6 RX12 none D (mtys cI cS) mord g Am) (O : gO (mcell g cI cS sa) mord g) (K48 : ∀ (x1 : Int32) (x2 : Int32) (S : gS) (H : Heap) (locs : List Loc) (ls : Array Slot), gX D (mcell g cI cS sa) mord g S s H locs → lv_has ls 6 [(0, .ref (g 99)), (1, .int x1), (2, .int x2)] → r48 x1 x2 S = some o → W p l e (rmd 2) s m args below meth c H locs 0 0 (gE below args s D (mtys cI cS) (mcell g cI cS sa) mord g none o.2) (F0 m 48 ls [])) (K54 : ∀ (x1 : Int32) (x2 : Int32) (x3 : Int32) (S : gS) (H : Heap) (locs : List Loc) (ls : Array Slot), gX D (mcell g cI cS sa) mord g S s H locs → lv_has ls 6 [(0, .ref (g 99)), (1, .int x1), (2, .int x2), (3, .int x3)] → r54 x1 x2 x3 S = some o → W p l e (rmd 2) s m args below meth c H locs 0 0 (gE below args s D (mtys cI cS) (mcell g cI cS sa) mord g none o.2) (F0 m 54 ls [])) (K81 : ∀ (x1 : Int32) (x2 : Int32) (x3 : Int32) (x4 : Int32) (x5 : Int32) (S : gS) (H : Heap) (locs : List Loc) (ls : Array Slot), gX D (mcell g cI cS sa) mord g S s H locs → lv_has ls 6 [(0, .ref (g 99)), (1, .int x1), (2, .int x2), (3, .int x3), (4, .int x4), (5, .int x5)] → r81 x1 x2 x3 x4 x5 S = some o → W p l e (rmd 2) s m args below meth c H locs 0 0 (gE below args s D (mtys cI cS) (mcell g cI cS sa) mord g none o.2) (F0 m 81 ls [])) (X : gX D (mcell g cI cS sa) mord g S s H locs) (hl : lv_has ls 6 [(0, .ref (g 99)), (1, .int x1), (2, .int x2), (3, .int x3), (4, .int x4), (5, .int x5)]) (hF : fX12_tellLeast_b92 N r48 r54 r81 x1 x2 x3 x4 x5 S = some o) : W p l e (rmd 2) s m args below meth c H locs 0 0 (gE below args s D (mtys cI cS) (mcell g cI cS sa) mord g none o.2) (F0 m 92 ls []) := by
  unfold fX12_tellLeast_b92 at hF
  refine lv_aload_n C.1.1 C.1.2.1 dX12_tellLeast_92 rfl (lv_at hl 0 rfl) ?_
  refine lv_iload_n C.1.1 C.1.2.1 dX12_tellLeast_93 rfl (lv_at hl 2 rfl) ?_
  refine lv_iload_n C.1.1 C.1.2.1 dX12_tellLeast_94 rfl (lv_at hl 3 rfl) ?_
  refine lv_iload C.1.1 C.1.2.1 dX12_tellLeast_95 (lv_at hl 5 rfl) ?_
  obtain ⟨q1, hq1, hF⟩ := bnd_some hF
  refine m_callVi C X vX12_mayHave rfl (kX12_mayHave O C.2.2.2.2.1 N x2 x3 x5  S q1 hq1) (Nat.le_of_ble_eq_true rfl) (Nat.le_of_ble_eq_true rfl) (Nat.le_of_ble_eq_true rfl) (Nat.le_of_ble_eq_true rfl) rfl hl.1 rfl (Nat.le_of_ble_eq_true rfl) dX12_tellLeast_97 (fun H locs X => ?_)
  refine lv_if_eq (tgt := 118) C.1.1 C.1.2.1 dX12_tellLeast_100 (by decide) (fun h_z => ?_) (fun h_z => ?_)
  · rw [if_pos h_z] at hF
    exact bX12_tellLeast_118 C O K48 K54 K81 X (lv_sub hl [0, 1, 2, 3, 4, 5] rfl) hF
  · rw [if_neg h_z] at hF
    exact bX12_tellLeast_103 C O K48 K54 K81 X (lv_sub hl [0, 1, 2, 3, 4, 5] rfl) hF
noncomputable def fX12_tellLeast_b81 (N : Nat) (r48 : Int32 → Int32 → gS → Option (Int32 × gS)) (r54 : Int32 → Int32 → Int32 → gS → Option (Int32 × gS)) (r81 : Int32 → Int32 → Int32 → Int32 → Int32 → gS → Option (Int32 × gS)) (x1 : Int32) (x2 : Int32) (x3 : Int32) (x4 : Int32) (x5 : Int32) (S : gS) : Option (Int32 × gS) := if (S 5 0) ≤ x5 then fX12_tellLeast_b124 N r48 r54 x1 x2 x3 x4 S else fX12_tellLeast_b92 N r48 r54 r81 x1 x2 x3 x4 x5 S
theorem bX12_tellLeast_81 {N : Nat} {r48 : Int32 → Int32 → gS → Option (Int32 × gS)} {r54 : Int32 → Int32 → Int32 → gS → Option (Int32 × gS)} {r81 : Int32 → Int32 → Int32 → Int32 → Int32 → gS → Option (Int32 × gS)} {x1 : Int32} {x2 : Int32} {x3 : Int32} {x4 : Int32} {x5 : Int32} {S : gS} {H : Heap} {locs : List Loc} {ls : Array Slot} {o : Int32 × gS} (C : gC p s m args meth c cX12_tellLeast 6 RX12 none D (mtys cI cS) mord g Am) (O : gO (mcell g cI cS sa) mord g) (K48 : ∀ (x1 : Int32) (x2 : Int32) (S : gS) (H : Heap) (locs : List Loc) (ls : Array Slot), gX D (mcell g cI cS sa) mord g S s H locs → lv_has ls 6 [(0, .ref (g 99)), (1, .int x1), (2, .int x2)] → r48 x1 x2 S = some o → W p l e (rmd 2) s m args below meth c H locs 0 0 (gE below args s D (mtys cI cS) (mcell g cI cS sa) mord g none o.2) (F0 m 48 ls [])) (K54 : ∀ (x1 : Int32) (x2 : Int32) (x3 : Int32) (S : gS) (H : Heap) (locs : List Loc) (ls : Array Slot), gX D (mcell g cI cS sa) mord g S s H locs → lv_has ls 6 [(0, .ref (g 99)), (1, .int x1), (2, .int x2), (3, .int x3)] → r54 x1 x2 x3 S = some o → W p l e (rmd 2) s m args below meth c H locs 0 0 (gE below args s D (mtys cI cS) (mcell g cI cS sa) mord g none o.2) (F0 m 54 ls [])) (K81 : ∀ (x1 : Int32) (x2 : Int32) (x3 : Int32) (x4 : Int32) (x5 : Int32) (S : gS) (H : Heap) (locs : List Loc) (ls : Array Slot), gX D (mcell g cI cS sa) mord g S s H locs → lv_has ls 6 [(0, .ref (g 99)), (1, .int x1), (2, .int x2), (3, .int x3), (4, .int x4), (5, .int x5)] → r81 x1 x2 x3 x4 x5 S = some o → W p l e (rmd 2) s m args below meth c H locs 0 0 (gE below args s D (mtys cI cS) (mcell g cI cS sa) mord g none o.2) (F0 m 81 ls [])) (X : gX D (mcell g cI cS sa) mord g S s H locs) (hl : lv_has ls 6 [(0, .ref (g 99)), (1, .int x1), (2, .int x2), (3, .int x3), (4, .int x4), (5, .int x5)]) (hF : fX12_tellLeast_b81 N r48 r54 r81 x1 x2 x3 x4 x5 S = some o) : W p l e (rmd 2) s m args below meth c H locs 0 0 (gE below args s D (mtys cI cS) (mcell g cI cS sa) mord g none o.2) (F0 m 81 ls []) := by
  unfold fX12_tellLeast_b81 at hF
  refine lv_iload C.1.1 C.1.2.1 dX12_tellLeast_81 (lv_at hl 5 rfl) ?_
  refine lv_aload_n C.1.1 C.1.2.1 dX12_tellLeast_83 rfl (lv_at hl 0 rfl) ?_
  refine m_g5 C X dX12_tellLeast_84 ?_
  refine lv_iconst (v := 0) C.1.1 C.1.2.1 dX12_tellLeast_87 (by decide) ?_
  refine m_r5 C X (j := 0) (inb_vp (by decide)) (by decide) dX12_tellLeast_88 ?_
  refine lv_icmp_ge (tgt := 124) C.1.1 C.1.2.1 dX12_tellLeast_89 (by decide) (fun h_z => ?_) (fun h_z => ?_)
  · rw [if_pos h_z] at hF
    exact bX12_tellLeast_124 C O K48 K54 X (lv_sub hl [0, 1, 2, 3, 4] rfl) hF
  · rw [if_neg h_z] at hF
    exact bX12_tellLeast_92 C O K48 K54 K81 X (lv_sub hl [0, 1, 2, 3, 4, 5] rfl) hF
noncomputable def fX12_tellLeast_h81 (N : Nat) (r48 : Int32 → Int32 → gS → Option (Int32 × gS)) (r54 : Int32 → Int32 → Int32 → gS → Option (Int32 × gS)) : Nat → Int32 → Int32 → Int32 → Int32 → Int32 → gS → Option (Int32 × gS)
  | 0, _, _, _, _, _, _ => none
  | n + 1, x1, x2, x3, x4, x5, S => fX12_tellLeast_b81 N r48 r54 (fX12_tellLeast_h81 N r48 r54 n) x1 x2 x3 x4 x5 S
theorem hX12_tellLeast_81 {N : Nat} {r48 : Int32 → Int32 → gS → Option (Int32 × gS)} {r54 : Int32 → Int32 → Int32 → gS → Option (Int32 × gS)} {o : Int32 × gS} (C : gC p s m args meth c cX12_tellLeast 6 RX12 none D (mtys cI cS) mord g Am) (O : gO (mcell g cI cS sa) mord g) (K48 : ∀ (x1 : Int32) (x2 : Int32) (S : gS) (H : Heap) (locs : List Loc) (ls : Array Slot), gX D (mcell g cI cS sa) mord g S s H locs → lv_has ls 6 [(0, .ref (g 99)), (1, .int x1), (2, .int x2)] → r48 x1 x2 S = some o → W p l e (rmd 2) s m args below meth c H locs 0 0 (gE below args s D (mtys cI cS) (mcell g cI cS sa) mord g none o.2) (F0 m 48 ls [])) (K54 : ∀ (x1 : Int32) (x2 : Int32) (x3 : Int32) (S : gS) (H : Heap) (locs : List Loc) (ls : Array Slot), gX D (mcell g cI cS sa) mord g S s H locs → lv_has ls 6 [(0, .ref (g 99)), (1, .int x1), (2, .int x2), (3, .int x3)] → r54 x1 x2 x3 S = some o → W p l e (rmd 2) s m args below meth c H locs 0 0 (gE below args s D (mtys cI cS) (mcell g cI cS sa) mord g none o.2) (F0 m 54 ls [])) : ∀ (n : Nat) (x1 : Int32) (x2 : Int32) (x3 : Int32) (x4 : Int32) (x5 : Int32) (S : gS) (H : Heap) (locs : List Loc) (ls : Array Slot), gX D (mcell g cI cS sa) mord g S s H locs → lv_has ls 6 [(0, .ref (g 99)), (1, .int x1), (2, .int x2), (3, .int x3), (4, .int x4), (5, .int x5)] → fX12_tellLeast_h81 N r48 r54 n x1 x2 x3 x4 x5 S = some o → W p l e (rmd 2) s m args below meth c H locs 0 0 (gE below args s D (mtys cI cS) (mcell g cI cS sa) mord g none o.2) (F0 m 81 ls []) := by
  intro n
  induction n with
  | zero =>
    intro x1 x2 x3 x4 x5 S H locs ls X hl hF
    exact absurd (show (none : Option (Int32 × gS)) = some o from hF) (by simp)
  | succ n ih =>
    intro x1 x2 x3 x4 x5 S H locs ls X hl hF
    have hF : fX12_tellLeast_b81 N r48 r54 (fX12_tellLeast_h81 N r48 r54 n) x1 x2 x3 x4 x5 S = some o := hF
    exact bX12_tellLeast_81 C O K48 K54 ih X hl hF
noncomputable def fX12_tellLeast_b59 (N : Nat) (r48 : Int32 → Int32 → gS → Option (Int32 × gS)) (r54 : Int32 → Int32 → Int32 → gS → Option (Int32 × gS)) (x1 : Int32) (x2 : Int32) (x3 : Int32) (S : gS) : Option (Int32 × gS) := chk (inb ((((((x2 + 1 : Int32)) <<< ((8 : Int32) &&& 31) : Int32)) + x3 : Int32)) (1792)) (fX12_tellLeast_h81 N r48 r54 N x1 x2 x3 ((1000 + (S 47 (Int32.toNatClampNeg ((((((x2 + 1 : Int32)) <<< ((8 : Int32) &&& 31) : Int32)) + x3 : Int32)))) : Int32)) 0 S)
theorem bX12_tellLeast_59 {N : Nat} {r48 : Int32 → Int32 → gS → Option (Int32 × gS)} {r54 : Int32 → Int32 → Int32 → gS → Option (Int32 × gS)} {x1 : Int32} {x2 : Int32} {x3 : Int32} {S : gS} {H : Heap} {locs : List Loc} {ls : Array Slot} {o : Int32 × gS} (C : gC p s m args meth c cX12_tellLeast 6 RX12 none D (mtys cI cS) mord g Am) (O : gO (mcell g cI cS sa) mord g) (K48 : ∀ (x1 : Int32) (x2 : Int32) (S : gS) (H : Heap) (locs : List Loc) (ls : Array Slot), gX D (mcell g cI cS sa) mord g S s H locs → lv_has ls 6 [(0, .ref (g 99)), (1, .int x1), (2, .int x2)] → r48 x1 x2 S = some o → W p l e (rmd 2) s m args below meth c H locs 0 0 (gE below args s D (mtys cI cS) (mcell g cI cS sa) mord g none o.2) (F0 m 48 ls [])) (K54 : ∀ (x1 : Int32) (x2 : Int32) (x3 : Int32) (S : gS) (H : Heap) (locs : List Loc) (ls : Array Slot), gX D (mcell g cI cS sa) mord g S s H locs → lv_has ls 6 [(0, .ref (g 99)), (1, .int x1), (2, .int x2), (3, .int x3)] → r54 x1 x2 x3 S = some o → W p l e (rmd 2) s m args below meth c H locs 0 0 (gE below args s D (mtys cI cS) (mcell g cI cS sa) mord g none o.2) (F0 m 54 ls [])) (X : gX D (mcell g cI cS sa) mord g S s H locs) (hl : lv_has ls 6 [(0, .ref (g 99)), (1, .int x1), (2, .int x2), (3, .int x3)]) (hF : fX12_tellLeast_b59 N r48 r54 x1 x2 x3 S = some o) : W p l e (rmd 2) s m args below meth c H locs 0 0 (gE below args s D (mtys cI cS) (mcell g cI cS sa) mord g none o.2) (F0 m 59 ls []) := by
  unfold fX12_tellLeast_b59 at hF
  refine lv_sipush (v := 1000) C.1.1 C.1.2.1 dX12_tellLeast_59 (by decide) ?_
  refine lv_aload_n C.1.1 C.1.2.1 dX12_tellLeast_62 rfl (lv_at hl 0 rfl) ?_
  refine m_g47 C X dX12_tellLeast_63 ?_
  refine lv_iload_n C.1.1 C.1.2.1 dX12_tellLeast_66 rfl (lv_at hl 2 rfl) ?_
  refine lv_iconst (v := 1) C.1.1 C.1.2.1 dX12_tellLeast_67 (by decide) ?_
  refine lv_iadd C.1.1 C.1.2.1 dX12_tellLeast_68 ?_
  refine lv_bipush (v := 8) C.1.1 C.1.2.1 dX12_tellLeast_69 (by decide) ?_
  refine lv_ishl C.1.1 C.1.2.1 dX12_tellLeast_71 ?_
  refine lv_iload_n C.1.1 C.1.2.1 dX12_tellLeast_72 rfl (lv_at hl 3 rfl) ?_
  refine lv_iadd C.1.1 C.1.2.1 dX12_tellLeast_73 ?_
  obtain ⟨h_1, hF⟩ := chk_some hF
  refine m_r47 C X  (inb_vp h_1) rfl dX12_tellLeast_74 ?_
  refine lv_iadd C.1.1 C.1.2.1 dX12_tellLeast_75 ?_
  refine lv_istore (lv' := [(4, .int ((1000 + (S 47 (Int32.toNatClampNeg ((((((x2 + 1 : Int32)) <<< ((8 : Int32) &&& 31) : Int32)) + x3 : Int32)))) : Int32))), (0, .ref (g 99)), (1, .int x1), (2, .int x2), (3, .int x3)]) C.1.1 C.1.2.1 dX12_tellLeast_76 hl (by decide) rfl (fun ls hl => ?_)
  refine lv_iconst (v := 0) C.1.1 C.1.2.1 dX12_tellLeast_78 (by decide) ?_
  refine lv_istore (lv' := [(5, .int 0), (4, .int ((1000 + (S 47 (Int32.toNatClampNeg ((((((x2 + 1 : Int32)) <<< ((8 : Int32) &&& 31) : Int32)) + x3 : Int32)))) : Int32))), (0, .ref (g 99)), (1, .int x1), (2, .int x2), (3, .int x3)]) C.1.1 C.1.2.1 dX12_tellLeast_79 hl (by decide) rfl (fun ls hl => ?_)
  exact hX12_tellLeast_81 C O K48 K54 N _ _ _ _ _ _ _ _ _ X (lv_sub hl [2, 3, 4, 5, 1, 0] rfl) hF
noncomputable def fX12_tellLeast_b54 (N : Nat) (r48 : Int32 → Int32 → gS → Option (Int32 × gS)) (r54 : Int32 → Int32 → Int32 → gS → Option (Int32 × gS)) (x1 : Int32) (x2 : Int32) (x3 : Int32) (S : gS) : Option (Int32 × gS) := if x1 ≤ x3 then fX12_tellLeast_b143 N r48 x1 x2 S else fX12_tellLeast_b59 N r48 r54 x1 x2 x3 S
theorem bX12_tellLeast_54 {N : Nat} {r48 : Int32 → Int32 → gS → Option (Int32 × gS)} {r54 : Int32 → Int32 → Int32 → gS → Option (Int32 × gS)} {x1 : Int32} {x2 : Int32} {x3 : Int32} {S : gS} {H : Heap} {locs : List Loc} {ls : Array Slot} {o : Int32 × gS} (C : gC p s m args meth c cX12_tellLeast 6 RX12 none D (mtys cI cS) mord g Am) (O : gO (mcell g cI cS sa) mord g) (K48 : ∀ (x1 : Int32) (x2 : Int32) (S : gS) (H : Heap) (locs : List Loc) (ls : Array Slot), gX D (mcell g cI cS sa) mord g S s H locs → lv_has ls 6 [(0, .ref (g 99)), (1, .int x1), (2, .int x2)] → r48 x1 x2 S = some o → W p l e (rmd 2) s m args below meth c H locs 0 0 (gE below args s D (mtys cI cS) (mcell g cI cS sa) mord g none o.2) (F0 m 48 ls [])) (K54 : ∀ (x1 : Int32) (x2 : Int32) (x3 : Int32) (S : gS) (H : Heap) (locs : List Loc) (ls : Array Slot), gX D (mcell g cI cS sa) mord g S s H locs → lv_has ls 6 [(0, .ref (g 99)), (1, .int x1), (2, .int x2), (3, .int x3)] → r54 x1 x2 x3 S = some o → W p l e (rmd 2) s m args below meth c H locs 0 0 (gE below args s D (mtys cI cS) (mcell g cI cS sa) mord g none o.2) (F0 m 54 ls [])) (X : gX D (mcell g cI cS sa) mord g S s H locs) (hl : lv_has ls 6 [(0, .ref (g 99)), (1, .int x1), (2, .int x2), (3, .int x3)]) (hF : fX12_tellLeast_b54 N r48 r54 x1 x2 x3 S = some o) : W p l e (rmd 2) s m args below meth c H locs 0 0 (gE below args s D (mtys cI cS) (mcell g cI cS sa) mord g none o.2) (F0 m 54 ls []) := by
  unfold fX12_tellLeast_b54 at hF
  refine lv_iload_n C.1.1 C.1.2.1 dX12_tellLeast_54 rfl (lv_at hl 3 rfl) ?_
  refine lv_iload_n C.1.1 C.1.2.1 dX12_tellLeast_55 rfl (lv_at hl 1 rfl) ?_
  refine lv_icmp_ge (tgt := 143) C.1.1 C.1.2.1 dX12_tellLeast_56 (by decide) (fun h_z => ?_) (fun h_z => ?_)
  · rw [if_pos h_z] at hF
    exact bX12_tellLeast_143 C O K48 X (lv_sub hl [0, 1, 2] rfl) hF
  · rw [if_neg h_z] at hF
    exact bX12_tellLeast_59 C O K48 K54 X (lv_sub hl [0, 1, 2, 3] rfl) hF
noncomputable def fX12_tellLeast_h54 (N : Nat) (r48 : Int32 → Int32 → gS → Option (Int32 × gS)) : Nat → Int32 → Int32 → Int32 → gS → Option (Int32 × gS)
  | 0, _, _, _, _ => none
  | n + 1, x1, x2, x3, S => fX12_tellLeast_b54 N r48 (fX12_tellLeast_h54 N r48 n) x1 x2 x3 S
theorem hX12_tellLeast_54 {N : Nat} {r48 : Int32 → Int32 → gS → Option (Int32 × gS)} {o : Int32 × gS} (C : gC p s m args meth c cX12_tellLeast 6 RX12 none D (mtys cI cS) mord g Am) (O : gO (mcell g cI cS sa) mord g) (K48 : ∀ (x1 : Int32) (x2 : Int32) (S : gS) (H : Heap) (locs : List Loc) (ls : Array Slot), gX D (mcell g cI cS sa) mord g S s H locs → lv_has ls 6 [(0, .ref (g 99)), (1, .int x1), (2, .int x2)] → r48 x1 x2 S = some o → W p l e (rmd 2) s m args below meth c H locs 0 0 (gE below args s D (mtys cI cS) (mcell g cI cS sa) mord g none o.2) (F0 m 48 ls [])) : ∀ (n : Nat) (x1 : Int32) (x2 : Int32) (x3 : Int32) (S : gS) (H : Heap) (locs : List Loc) (ls : Array Slot), gX D (mcell g cI cS sa) mord g S s H locs → lv_has ls 6 [(0, .ref (g 99)), (1, .int x1), (2, .int x2), (3, .int x3)] → fX12_tellLeast_h54 N r48 n x1 x2 x3 S = some o → W p l e (rmd 2) s m args below meth c H locs 0 0 (gE below args s D (mtys cI cS) (mcell g cI cS sa) mord g none o.2) (F0 m 54 ls []) := by
  intro n
  induction n with
  | zero =>
    intro x1 x2 x3 S H locs ls X hl hF
    exact absurd (show (none : Option (Int32 × gS)) = some o from hF) (by simp)
  | succ n ih =>
    intro x1 x2 x3 S H locs ls X hl hF
    have hF : fX12_tellLeast_b54 N r48 (fX12_tellLeast_h54 N r48 n) x1 x2 x3 S = some o := hF
    exact bX12_tellLeast_54 C O K48 ih X hl hF
noncomputable def fX12_tellLeast_b52 (N : Nat) (r48 : Int32 → Int32 → gS → Option (Int32 × gS)) (x1 : Int32) (x2 : Int32) (S : gS) : Option (Int32 × gS) := fX12_tellLeast_h54 N r48 N x1 x2 0 S
theorem bX12_tellLeast_52 {N : Nat} {r48 : Int32 → Int32 → gS → Option (Int32 × gS)} {x1 : Int32} {x2 : Int32} {S : gS} {H : Heap} {locs : List Loc} {ls : Array Slot} {o : Int32 × gS} (C : gC p s m args meth c cX12_tellLeast 6 RX12 none D (mtys cI cS) mord g Am) (O : gO (mcell g cI cS sa) mord g) (K48 : ∀ (x1 : Int32) (x2 : Int32) (S : gS) (H : Heap) (locs : List Loc) (ls : Array Slot), gX D (mcell g cI cS sa) mord g S s H locs → lv_has ls 6 [(0, .ref (g 99)), (1, .int x1), (2, .int x2)] → r48 x1 x2 S = some o → W p l e (rmd 2) s m args below meth c H locs 0 0 (gE below args s D (mtys cI cS) (mcell g cI cS sa) mord g none o.2) (F0 m 48 ls [])) (X : gX D (mcell g cI cS sa) mord g S s H locs) (hl : lv_has ls 6 [(0, .ref (g 99)), (1, .int x1), (2, .int x2)]) (hF : fX12_tellLeast_b52 N r48 x1 x2 S = some o) : W p l e (rmd 2) s m args below meth c H locs 0 0 (gE below args s D (mtys cI cS) (mcell g cI cS sa) mord g none o.2) (F0 m 52 ls []) := by
  unfold fX12_tellLeast_b52 at hF
  refine lv_iconst (v := 0) C.1.1 C.1.2.1 dX12_tellLeast_52 (by decide) ?_
  refine lv_istore_n (lv' := [(3, .int 0), (0, .ref (g 99)), (1, .int x1), (2, .int x2)]) C.1.1 C.1.2.1 dX12_tellLeast_53 rfl hl (by decide) rfl (fun ls hl => ?_)
  exact hX12_tellLeast_54 C O K48 N _ _ _ _ _ _ _ X (lv_sub hl [1, 2, 3, 0] rfl) hF
noncomputable def fX12_tellLeast_b48 (N : Nat) (r48 : Int32 → Int32 → gS → Option (Int32 × gS)) (x1 : Int32) (x2 : Int32) (S : gS) : Option (Int32 × gS) := if x2 < 0 then fX12_tellLeast_b149 N S else fX12_tellLeast_b52 N r48 x1 x2 S
theorem bX12_tellLeast_48 {N : Nat} {r48 : Int32 → Int32 → gS → Option (Int32 × gS)} {x1 : Int32} {x2 : Int32} {S : gS} {H : Heap} {locs : List Loc} {ls : Array Slot} {o : Int32 × gS} (C : gC p s m args meth c cX12_tellLeast 6 RX12 none D (mtys cI cS) mord g Am) (O : gO (mcell g cI cS sa) mord g) (K48 : ∀ (x1 : Int32) (x2 : Int32) (S : gS) (H : Heap) (locs : List Loc) (ls : Array Slot), gX D (mcell g cI cS sa) mord g S s H locs → lv_has ls 6 [(0, .ref (g 99)), (1, .int x1), (2, .int x2)] → r48 x1 x2 S = some o → W p l e (rmd 2) s m args below meth c H locs 0 0 (gE below args s D (mtys cI cS) (mcell g cI cS sa) mord g none o.2) (F0 m 48 ls [])) (X : gX D (mcell g cI cS sa) mord g S s H locs) (hl : lv_has ls 6 [(0, .ref (g 99)), (1, .int x1), (2, .int x2)]) (hF : fX12_tellLeast_b48 N r48 x1 x2 S = some o) : W p l e (rmd 2) s m args below meth c H locs 0 0 (gE below args s D (mtys cI cS) (mcell g cI cS sa) mord g none o.2) (F0 m 48 ls []) := by
  unfold fX12_tellLeast_b48 at hF
  refine lv_iload_n C.1.1 C.1.2.1 dX12_tellLeast_48 rfl (lv_at hl 2 rfl) ?_
  refine lv_if_lt (tgt := 149) C.1.1 C.1.2.1 dX12_tellLeast_49 (by decide) (fun h_z => ?_) (fun h_z => ?_)
  · rw [if_pos h_z] at hF
    exact bX12_tellLeast_149 C O X (lv_sub hl [] rfl) hF
  · rw [if_neg h_z] at hF
    exact bX12_tellLeast_52 C O K48 X (lv_sub hl [0, 1, 2] rfl) hF
noncomputable def fX12_tellLeast_h48 (N : Nat) : Nat → Int32 → Int32 → gS → Option (Int32 × gS)
  | 0, _, _, _ => none
  | n + 1, x1, x2, S => fX12_tellLeast_b48 N (fX12_tellLeast_h48 N n) x1 x2 S
theorem hX12_tellLeast_48 {N : Nat} {o : Int32 × gS} (C : gC p s m args meth c cX12_tellLeast 6 RX12 none D (mtys cI cS) mord g Am) (O : gO (mcell g cI cS sa) mord g) : ∀ (n : Nat) (x1 : Int32) (x2 : Int32) (S : gS) (H : Heap) (locs : List Loc) (ls : Array Slot), gX D (mcell g cI cS sa) mord g S s H locs → lv_has ls 6 [(0, .ref (g 99)), (1, .int x1), (2, .int x2)] → fX12_tellLeast_h48 N n x1 x2 S = some o → W p l e (rmd 2) s m args below meth c H locs 0 0 (gE below args s D (mtys cI cS) (mcell g cI cS sa) mord g none o.2) (F0 m 48 ls []) := by
  intro n
  induction n with
  | zero =>
    intro x1 x2 S H locs ls X hl hF
    exact absurd (show (none : Option (Int32 × gS)) = some o from hF) (by simp)
  | succ n ih =>
    intro x1 x2 S H locs ls X hl hF
    have hF : fX12_tellLeast_b48 N (fX12_tellLeast_h48 N n) x1 x2 S = some o := hF
    exact bX12_tellLeast_48 C O ih X hl hF
noncomputable def fX12_tellLeast_b39 (N : Nat) (x1 : Int32) (S : gS) : Option (Int32 × gS) := fX12_tellLeast_h48 N N x1 (((S 5 1) - 1 : Int32)) S
theorem bX12_tellLeast_39 {N : Nat} {x1 : Int32} {S : gS} {H : Heap} {locs : List Loc} {ls : Array Slot} {o : Int32 × gS} (C : gC p s m args meth c cX12_tellLeast 6 RX12 none D (mtys cI cS) mord g Am) (O : gO (mcell g cI cS sa) mord g) (X : gX D (mcell g cI cS sa) mord g S s H locs) (hl : lv_has ls 6 [(0, .ref (g 99)), (1, .int x1)]) (hF : fX12_tellLeast_b39 N x1 S = some o) : W p l e (rmd 2) s m args below meth c H locs 0 0 (gE below args s D (mtys cI cS) (mcell g cI cS sa) mord g none o.2) (F0 m 39 ls []) := by
  unfold fX12_tellLeast_b39 at hF
  refine lv_aload_n C.1.1 C.1.2.1 dX12_tellLeast_39 rfl (lv_at hl 0 rfl) ?_
  refine m_g5 C X dX12_tellLeast_40 ?_
  refine lv_iconst (v := 1) C.1.1 C.1.2.1 dX12_tellLeast_43 (by decide) ?_
  refine m_r5 C X (j := 1) (inb_vp (by decide)) (by decide) dX12_tellLeast_44 ?_
  refine lv_iconst (v := 1) C.1.1 C.1.2.1 dX12_tellLeast_45 (by decide) ?_
  refine lv_isub C.1.1 C.1.2.1 dX12_tellLeast_46 ?_
  refine lv_istore_n (lv' := [(2, .int (((S 5 1) - 1 : Int32))), (0, .ref (g 99)), (1, .int x1)]) C.1.1 C.1.2.1 dX12_tellLeast_47 rfl hl (by decide) rfl (fun ls hl => ?_)
  exact hX12_tellLeast_48 C O N _ _ _ _ _ _ X (lv_sub hl [1, 2, 0] rfl) hF
noncomputable def fX12_tellLeast_b16 (N : Nat) (r11 : Int32 → Int32 → gS → Option (Int32 × gS)) (x1 : Int32) (x2 : Int32) (S : gS) : Option (Int32 × gS) := chk (inb (((((S 5 1) <<< ((8 : Int32) &&& 31) : Int32)) + x2 : Int32)) (1792)) (lt (sU S 47 (Int32.toNatClampNeg (((((S 5 1) <<< ((8 : Int32) &&& 31) : Int32)) + x2 : Int32))) 0) fun S1 => (r11 x1 ((x2 + 1 : Int32)) S1))
theorem bX12_tellLeast_16 {N : Nat} {r11 : Int32 → Int32 → gS → Option (Int32 × gS)} {x1 : Int32} {x2 : Int32} {S : gS} {H : Heap} {locs : List Loc} {ls : Array Slot} {o : Int32 × gS} (C : gC p s m args meth c cX12_tellLeast 6 RX12 none D (mtys cI cS) mord g Am) (O : gO (mcell g cI cS sa) mord g) (K11 : ∀ (x1 : Int32) (x2 : Int32) (S : gS) (H : Heap) (locs : List Loc) (ls : Array Slot), gX D (mcell g cI cS sa) mord g S s H locs → lv_has ls 6 [(0, .ref (g 99)), (1, .int x1), (2, .int x2)] → r11 x1 x2 S = some o → W p l e (rmd 2) s m args below meth c H locs 0 0 (gE below args s D (mtys cI cS) (mcell g cI cS sa) mord g none o.2) (F0 m 11 ls [])) (X : gX D (mcell g cI cS sa) mord g S s H locs) (hl : lv_has ls 6 [(0, .ref (g 99)), (1, .int x1), (2, .int x2)]) (hF : fX12_tellLeast_b16 N r11 x1 x2 S = some o) : W p l e (rmd 2) s m args below meth c H locs 0 0 (gE below args s D (mtys cI cS) (mcell g cI cS sa) mord g none o.2) (F0 m 16 ls []) := by
  unfold fX12_tellLeast_b16 at hF
  refine lv_aload_n C.1.1 C.1.2.1 dX12_tellLeast_16 rfl (lv_at hl 0 rfl) ?_
  refine m_g47 C X dX12_tellLeast_17 ?_
  refine lv_aload_n C.1.1 C.1.2.1 dX12_tellLeast_20 rfl (lv_at hl 0 rfl) ?_
  refine m_g5 C X dX12_tellLeast_21 ?_
  refine lv_iconst (v := 1) C.1.1 C.1.2.1 dX12_tellLeast_24 (by decide) ?_
  refine m_r5 C X (j := 1) (inb_vp (by decide)) (by decide) dX12_tellLeast_25 ?_
  refine lv_bipush (v := 8) C.1.1 C.1.2.1 dX12_tellLeast_26 (by decide) ?_
  refine lv_ishl C.1.1 C.1.2.1 dX12_tellLeast_28 ?_
  refine lv_iload_n C.1.1 C.1.2.1 dX12_tellLeast_29 rfl (lv_at hl 2 rfl) ?_
  refine lv_iadd C.1.1 C.1.2.1 dX12_tellLeast_30 ?_
  refine lv_iconst (v := 0) C.1.1 C.1.2.1 dX12_tellLeast_31 (by decide) ?_
  obtain ⟨h_1, hF⟩ := chk_some hF
  obtain ⟨S1, eS1, hF⟩ := lt_some hF
  refine m_w47 C O X  (inb_vp h_1) rfl eS1 dX12_tellLeast_32 (fun H locs X => ?_)
  refine lv_iinc (v := (x2 + 1 : Int32)) (lv' := [(2, .int ((x2 + 1 : Int32))), (0, .ref (g 99)), (1, .int x1)]) C.1.1 C.1.2.1 dX12_tellLeast_33 hl (k := 2) rfl rfl (by decide) rfl (fun ls hl => ?_)
  refine lv_goto (tgt := 11) C.1.1 C.1.2.1 dX12_tellLeast_36 (by decide) ?_
  exact K11 _ _ _ _ _ _ X (lv_sub hl [1, 2, 0] rfl) hF
noncomputable def fX12_tellLeast_b11 (N : Nat) (r11 : Int32 → Int32 → gS → Option (Int32 × gS)) (x1 : Int32) (x2 : Int32) (S : gS) : Option (Int32 × gS) := if x1 ≤ x2 then fX12_tellLeast_b39 N x1 S else fX12_tellLeast_b16 N r11 x1 x2 S
theorem bX12_tellLeast_11 {N : Nat} {r11 : Int32 → Int32 → gS → Option (Int32 × gS)} {x1 : Int32} {x2 : Int32} {S : gS} {H : Heap} {locs : List Loc} {ls : Array Slot} {o : Int32 × gS} (C : gC p s m args meth c cX12_tellLeast 6 RX12 none D (mtys cI cS) mord g Am) (O : gO (mcell g cI cS sa) mord g) (K11 : ∀ (x1 : Int32) (x2 : Int32) (S : gS) (H : Heap) (locs : List Loc) (ls : Array Slot), gX D (mcell g cI cS sa) mord g S s H locs → lv_has ls 6 [(0, .ref (g 99)), (1, .int x1), (2, .int x2)] → r11 x1 x2 S = some o → W p l e (rmd 2) s m args below meth c H locs 0 0 (gE below args s D (mtys cI cS) (mcell g cI cS sa) mord g none o.2) (F0 m 11 ls [])) (X : gX D (mcell g cI cS sa) mord g S s H locs) (hl : lv_has ls 6 [(0, .ref (g 99)), (1, .int x1), (2, .int x2)]) (hF : fX12_tellLeast_b11 N r11 x1 x2 S = some o) : W p l e (rmd 2) s m args below meth c H locs 0 0 (gE below args s D (mtys cI cS) (mcell g cI cS sa) mord g none o.2) (F0 m 11 ls []) := by
  unfold fX12_tellLeast_b11 at hF
  refine lv_iload_n C.1.1 C.1.2.1 dX12_tellLeast_11 rfl (lv_at hl 2 rfl) ?_
  refine lv_iload_n C.1.1 C.1.2.1 dX12_tellLeast_12 rfl (lv_at hl 1 rfl) ?_
  refine lv_icmp_ge (tgt := 39) C.1.1 C.1.2.1 dX12_tellLeast_13 (by decide) (fun h_z => ?_) (fun h_z => ?_)
  · rw [if_pos h_z] at hF
    exact bX12_tellLeast_39 C O X (lv_sub hl [0, 1] rfl) hF
  · rw [if_neg h_z] at hF
    exact bX12_tellLeast_16 C O K11 X (lv_sub hl [0, 1, 2] rfl) hF
noncomputable def fX12_tellLeast_h11 (N : Nat) : Nat → Int32 → Int32 → gS → Option (Int32 × gS)
  | 0, _, _, _ => none
  | n + 1, x1, x2, S => fX12_tellLeast_b11 N (fX12_tellLeast_h11 N n) x1 x2 S
theorem hX12_tellLeast_11 {N : Nat} {o : Int32 × gS} (C : gC p s m args meth c cX12_tellLeast 6 RX12 none D (mtys cI cS) mord g Am) (O : gO (mcell g cI cS sa) mord g) : ∀ (n : Nat) (x1 : Int32) (x2 : Int32) (S : gS) (H : Heap) (locs : List Loc) (ls : Array Slot), gX D (mcell g cI cS sa) mord g S s H locs → lv_has ls 6 [(0, .ref (g 99)), (1, .int x1), (2, .int x2)] → fX12_tellLeast_h11 N n x1 x2 S = some o → W p l e (rmd 2) s m args below meth c H locs 0 0 (gE below args s D (mtys cI cS) (mcell g cI cS sa) mord g none o.2) (F0 m 11 ls []) := by
  intro n
  induction n with
  | zero =>
    intro x1 x2 S H locs ls X hl hF
    exact absurd (show (none : Option (Int32 × gS)) = some o from hF) (by simp)
  | succ n ih =>
    intro x1 x2 S H locs ls X hl hF
    have hF : fX12_tellLeast_b11 N (fX12_tellLeast_h11 N n) x1 x2 S = some o := hF
    exact bX12_tellLeast_11 C O ih X hl hF
noncomputable def fX12_tellLeast_b0 (N : Nat) (S : gS) : Option (Int32 × gS) := fX12_tellLeast_h11 N N (((1 : Int32) <<< ((S 5 0) &&& 31) : Int32)) 0 S
theorem bX12_tellLeast_0 {N : Nat} {S : gS} {H : Heap} {locs : List Loc} {ls : Array Slot} {o : Int32 × gS} (C : gC p s m args meth c cX12_tellLeast 6 RX12 none D (mtys cI cS) mord g Am) (O : gO (mcell g cI cS sa) mord g) (X : gX D (mcell g cI cS sa) mord g S s H locs) (hl : lv_has ls 6 [(0, .ref (g 99))]) (hF : fX12_tellLeast_b0 N S = some o) : W p l e (rmd 2) s m args below meth c H locs 0 0 (gE below args s D (mtys cI cS) (mcell g cI cS sa) mord g none o.2) (F0 m 0 ls []) := by
  unfold fX12_tellLeast_b0 at hF
  refine lv_iconst (v := 1) C.1.1 C.1.2.1 dX12_tellLeast_0 (by decide) ?_
  refine lv_aload_n C.1.1 C.1.2.1 dX12_tellLeast_1 rfl (lv_at hl 0 rfl) ?_
  refine m_g5 C X dX12_tellLeast_2 ?_
  refine lv_iconst (v := 0) C.1.1 C.1.2.1 dX12_tellLeast_5 (by decide) ?_
  refine m_r5 C X (j := 0) (inb_vp (by decide)) (by decide) dX12_tellLeast_6 ?_
  refine lv_ishl C.1.1 C.1.2.1 dX12_tellLeast_7 ?_
  refine lv_istore_n (lv' := [(1, .int (((1 : Int32) <<< ((S 5 0) &&& 31) : Int32))), (0, .ref (g 99))]) C.1.1 C.1.2.1 dX12_tellLeast_8 rfl hl (by decide) rfl (fun ls hl => ?_)
  refine lv_iconst (v := 0) C.1.1 C.1.2.1 dX12_tellLeast_9 (by decide) ?_
  refine lv_istore_n (lv' := [(2, .int 0), (1, .int (((1 : Int32) <<< ((S 5 0) &&& 31) : Int32))), (0, .ref (g 99))]) C.1.1 C.1.2.1 dX12_tellLeast_10 rfl hl (by decide) rfl (fun ls hl => ?_)
  exact hX12_tellLeast_11 C O N _ _ _ _ _ _ X (lv_sub hl [2, 1, 0] rfl) hF
noncomputable def fX12_tellLeast (N : Nat) (S : gS) : Option (Int32 × gS) := fX12_tellLeast_b0 N S
theorem kX12_tellLeast {l : Launch} {D : va_G} {g : Nat → Nat} {cI cS : ClassId} {sa : Nat → Nat → Option Nat} {Am : (Nat → Prop) → State → Heap → Prop} (O : gO (mcell g cI cS sa) mord g) (P : gAm Am) (N : Nat) (S : gS) (o : Int32 × gS) (hF : fX12_tellLeast N S = some o) : gM l yX12_tellLeast cX12_tellLeast 6 none 2 D (mtys cI cS) (mcell g cI cS sa) mord g Am [.ref (g 99)] S none o.2 :=
  gM_of O P (by decide) (Nat.le_of_ble_eq_true rfl) (fun p e s m args below meth c ls C X hl => bX12_tellLeast_0 C O X (lv_sub hl [0] rfl) hF)
-- shared
noncomputable def fX12_shared_b58 (N : Nat) (t0 : Int32) (S : gS) : Option (Int32 × gS) := some (t0, S)
theorem bX12_shared_58 {N : Nat} {t0 : Int32} {S : gS} {H : Heap} {locs : List Loc} {ls : Array Slot} {o : Int32 × gS} (C : gC p s m args meth c cX12_shared 2 RX12 ((some .int)) D (mtys cI cS) mord g Am) (O : gO (mcell g cI cS sa) mord g) (X : gX D (mcell g cI cS sa) mord g S s H locs) (hl : lv_has ls 2 []) (hF : fX12_shared_b58 N t0 S = some o) : W p l e (rmd 3) s m args below meth c H locs 0 0 (gE below args s D (mtys cI cS) (mcell g cI cS sa) mord g (some (.int o.1)) o.2) (F0 m 58 ls [.int t0]) := by
  unfold fX12_shared_b58 at hF
  cases hF
  exact g_iret C X dX12_shared_58
noncomputable def fX12_shared_b48 (N : Nat) (S : gS) : Option (Int32 × gS) := fX12_shared_b58 N (((S 47 0) - (S 47 0) / 1000 * 1000 : Int32)) S
theorem bX12_shared_48 {N : Nat} {S : gS} {H : Heap} {locs : List Loc} {ls : Array Slot} {o : Int32 × gS} (C : gC p s m args meth c cX12_shared 2 RX12 ((some .int)) D (mtys cI cS) mord g Am) (O : gO (mcell g cI cS sa) mord g) (X : gX D (mcell g cI cS sa) mord g S s H locs) (hl : lv_has ls 2 [(0, .ref (g 99))]) (hF : fX12_shared_b48 N S = some o) : W p l e (rmd 3) s m args below meth c H locs 0 0 (gE below args s D (mtys cI cS) (mcell g cI cS sa) mord g (some (.int o.1)) o.2) (F0 m 48 ls []) := by
  unfold fX12_shared_b48 at hF
  refine lv_aload_n C.1.1 C.1.2.1 dX12_shared_48 rfl (lv_at hl 0 rfl) ?_
  refine m_g47 C X dX12_shared_49 ?_
  refine lv_iconst (v := 0) C.1.1 C.1.2.1 dX12_shared_52 (by decide) ?_
  refine m_r47 C X (j := 0) (inb_vp (by decide)) (by decide) dX12_shared_53 ?_
  refine lv_sipush (v := 1000) C.1.1 C.1.2.1 dX12_shared_54 (by decide) ?_
  refine lv_irem C.1.1 C.1.2.1 dX12_shared_57 (by decide) ?_
  exact bX12_shared_58 C O X (lv_sub hl [] rfl) hF
noncomputable def fX12_shared_b28 (N : Nat) (S : gS) : Option (Int32 × gS) := fX12_shared_b58 N (((S 5 1) - (((S 47 0) / 1000 : Int32)) : Int32)) S
theorem bX12_shared_28 {N : Nat} {S : gS} {H : Heap} {locs : List Loc} {ls : Array Slot} {o : Int32 × gS} (C : gC p s m args meth c cX12_shared 2 RX12 ((some .int)) D (mtys cI cS) mord g Am) (O : gO (mcell g cI cS sa) mord g) (X : gX D (mcell g cI cS sa) mord g S s H locs) (hl : lv_has ls 2 [(0, .ref (g 99))]) (hF : fX12_shared_b28 N S = some o) : W p l e (rmd 3) s m args below meth c H locs 0 0 (gE below args s D (mtys cI cS) (mcell g cI cS sa) mord g (some (.int o.1)) o.2) (F0 m 28 ls []) := by
  unfold fX12_shared_b28 at hF
  refine lv_aload_n C.1.1 C.1.2.1 dX12_shared_28 rfl (lv_at hl 0 rfl) ?_
  refine m_g5 C X dX12_shared_29 ?_
  refine lv_iconst (v := 1) C.1.1 C.1.2.1 dX12_shared_32 (by decide) ?_
  refine m_r5 C X (j := 1) (inb_vp (by decide)) (by decide) dX12_shared_33 ?_
  refine lv_aload_n C.1.1 C.1.2.1 dX12_shared_34 rfl (lv_at hl 0 rfl) ?_
  refine m_g47 C X dX12_shared_35 ?_
  refine lv_iconst (v := 0) C.1.1 C.1.2.1 dX12_shared_38 (by decide) ?_
  refine m_r47 C X (j := 0) (inb_vp (by decide)) (by decide) dX12_shared_39 ?_
  refine lv_sipush (v := 1000) C.1.1 C.1.2.1 dX12_shared_40 (by decide) ?_
  refine lv_idiv C.1.1 C.1.2.1 dX12_shared_43 (by decide) ?_
  refine lv_isub C.1.1 C.1.2.1 dX12_shared_44 ?_
  refine lv_goto (tgt := 58) C.1.1 C.1.2.1 dX12_shared_45 (by decide) ?_
  exact bX12_shared_58 C O X (lv_sub hl [] rfl) hF
noncomputable def fX12_shared_b20 (N : Nat) (x1 : Int32) (S : gS) : Option (Int32 × gS) := bnd (fX12_tellLeast N  S) fun q1 => (if x1 = 0 then fX12_shared_b28 N q1.2 else fX12_shared_b48 N q1.2)
theorem bX12_shared_20 {N : Nat} {x1 : Int32} {S : gS} {H : Heap} {locs : List Loc} {ls : Array Slot} {o : Int32 × gS} (C : gC p s m args meth c cX12_shared 2 RX12 ((some .int)) D (mtys cI cS) mord g Am) (O : gO (mcell g cI cS sa) mord g) (X : gX D (mcell g cI cS sa) mord g S s H locs) (hl : lv_has ls 2 [(0, .ref (g 99)), (1, .int x1)]) (hF : fX12_shared_b20 N x1 S = some o) : W p l e (rmd 3) s m args below meth c H locs 0 0 (gE below args s D (mtys cI cS) (mcell g cI cS sa) mord g (some (.int o.1)) o.2) (F0 m 20 ls []) := by
  unfold fX12_shared_b20 at hF
  refine lv_aload_n C.1.1 C.1.2.1 dX12_shared_20 rfl (lv_at hl 0 rfl) ?_
  obtain ⟨q1, hq1, hF⟩ := bnd_some hF
  refine m_callV C X vX12_tellLeast rfl (kX12_tellLeast O C.2.2.2.2.1 N   S q1 hq1) (Nat.le_of_ble_eq_true rfl) (Nat.le_of_ble_eq_true rfl) (Nat.le_of_ble_eq_true rfl) (Nat.le_of_ble_eq_true rfl) rfl hl.1 rfl (Nat.le_of_ble_eq_true rfl) dX12_shared_21 (fun H locs X => ?_)
  refine lv_iload_n C.1.1 C.1.2.1 dX12_shared_24 rfl (lv_at hl 1 rfl) ?_
  refine lv_if_ne (tgt := 48) C.1.1 C.1.2.1 dX12_shared_25 (by decide) (fun h_z => ?_) (fun h_z => ?_)
  · rw [if_neg h_z] at hF
    exact bX12_shared_48 C O X (lv_sub hl [0] rfl) hF
  · rw [if_pos h_z] at hF
    exact bX12_shared_28 C O X (lv_sub hl [0] rfl) hF
noncomputable def fX12_shared_b14 (N : Nat) (S : gS) : Option (Int32 × gS) := bnd (fX12_fail N 1 S) fun q1 => (some (q1.1, q1.2))
theorem bX12_shared_14 {N : Nat} {S : gS} {H : Heap} {locs : List Loc} {ls : Array Slot} {o : Int32 × gS} (C : gC p s m args meth c cX12_shared 2 RX12 ((some .int)) D (mtys cI cS) mord g Am) (O : gO (mcell g cI cS sa) mord g) (X : gX D (mcell g cI cS sa) mord g S s H locs) (hl : lv_has ls 2 [(0, .ref (g 99))]) (hF : fX12_shared_b14 N S = some o) : W p l e (rmd 3) s m args below meth c H locs 0 0 (gE below args s D (mtys cI cS) (mcell g cI cS sa) mord g (some (.int o.1)) o.2) (F0 m 14 ls []) := by
  unfold fX12_shared_b14 at hF
  refine lv_aload_n C.1.1 C.1.2.1 dX12_shared_14 rfl (lv_at hl 0 rfl) ?_
  refine lv_iconst (v := 1) C.1.1 C.1.2.1 dX12_shared_15 (by decide) ?_
  obtain ⟨q1, hq1, hF⟩ := bnd_some hF
  refine m_callVi C X vX12_fail rfl (kX12_fail O C.2.2.2.2.1 N 1  S q1 hq1) (Nat.le_of_ble_eq_true rfl) (Nat.le_of_ble_eq_true rfl) (Nat.le_of_ble_eq_true rfl) (Nat.le_of_ble_eq_true rfl) rfl hl.1 rfl (Nat.le_of_ble_eq_true rfl) dX12_shared_16 (fun H locs X => ?_)
  cases hF
  exact g_iret C X dX12_shared_19
noncomputable def fX12_shared_b9 (N : Nat) (x1 : Int32) (S : gS) : Option (Int32 × gS) := if x1 ≤ 1 then fX12_shared_b20 N x1 S else fX12_shared_b14 N S
theorem bX12_shared_9 {N : Nat} {x1 : Int32} {S : gS} {H : Heap} {locs : List Loc} {ls : Array Slot} {o : Int32 × gS} (C : gC p s m args meth c cX12_shared 2 RX12 ((some .int)) D (mtys cI cS) mord g Am) (O : gO (mcell g cI cS sa) mord g) (X : gX D (mcell g cI cS sa) mord g S s H locs) (hl : lv_has ls 2 [(0, .ref (g 99)), (1, .int x1)]) (hF : fX12_shared_b9 N x1 S = some o) : W p l e (rmd 3) s m args below meth c H locs 0 0 (gE below args s D (mtys cI cS) (mcell g cI cS sa) mord g (some (.int o.1)) o.2) (F0 m 9 ls []) := by
  unfold fX12_shared_b9 at hF
  refine lv_iload_n C.1.1 C.1.2.1 dX12_shared_9 rfl (lv_at hl 1 rfl) ?_
  refine lv_iconst (v := 1) C.1.1 C.1.2.1 dX12_shared_10 (by decide) ?_
  refine lv_icmp_le (tgt := 20) C.1.1 C.1.2.1 dX12_shared_11 (by decide) (fun h_z => ?_) (fun h_z => ?_)
  · rw [if_pos h_z] at hF
    exact bX12_shared_20 C O X (lv_sub hl [0, 1] rfl) hF
  · rw [if_neg h_z] at hF
    exact bX12_shared_14 C O X (lv_sub hl [0] rfl) hF
noncomputable def fX12_shared_b0 (N : Nat) (x1 : Int32) (S : gS) : Option (Int32 × gS) := lt (sU S 99 4 0) fun S1 => (if x1 < 0 then fX12_shared_b14 N S1 else fX12_shared_b9 N x1 S1)
theorem bX12_shared_0 {N : Nat} {x1 : Int32} {S : gS} {H : Heap} {locs : List Loc} {ls : Array Slot} {o : Int32 × gS} (C : gC p s m args meth c cX12_shared 2 RX12 ((some .int)) D (mtys cI cS) mord g Am) (O : gO (mcell g cI cS sa) mord g) (X : gX D (mcell g cI cS sa) mord g S s H locs) (hl : lv_has ls 2 [(0, .ref (g 99)), (1, .int x1)]) (hF : fX12_shared_b0 N x1 S = some o) : W p l e (rmd 3) s m args below meth c H locs 0 0 (gE below args s D (mtys cI cS) (mcell g cI cS sa) mord g (some (.int o.1)) o.2) (F0 m 0 ls []) := by
  unfold fX12_shared_b0 at hF
  refine lv_aload_n C.1.1 C.1.2.1 dX12_shared_0 rfl (lv_at hl 0 rfl) ?_
  refine lv_iconst (v := 0) C.1.1 C.1.2.1 dX12_shared_1 (by decide) ?_
  obtain ⟨S1, eS1, hF⟩ := lt_some hF
  refine m_p4 C O X eS1 dX12_shared_2 (fun H locs X => ?_)
  refine lv_iload_n C.1.1 C.1.2.1 dX12_shared_5 rfl (lv_at hl 1 rfl) ?_
  refine lv_if_lt (tgt := 14) C.1.1 C.1.2.1 dX12_shared_6 (by decide) (fun h_z => ?_) (fun h_z => ?_)
  · rw [if_pos h_z] at hF
    exact bX12_shared_14 C O X (lv_sub hl [0] rfl) hF
  · rw [if_neg h_z] at hF
    exact bX12_shared_9 C O X (lv_sub hl [0, 1] rfl) hF
noncomputable def fX12_shared (N : Nat) (x1 : Int32) (S : gS) : Option (Int32 × gS) := fX12_shared_b0 N x1 S
theorem kX12_shared {l : Launch} {D : va_G} {g : Nat → Nat} {cI cS : ClassId} {sa : Nat → Nat → Option Nat} {Am : (Nat → Prop) → State → Heap → Prop} (O : gO (mcell g cI cS sa) mord g) (P : gAm Am) (N : Nat) (x1 : Int32) (S : gS) (o : Int32 × gS) (hF : fX12_shared N x1 S = some o) : gM l yX12_shared cX12_shared 2 ((some .int)) 3 D (mtys cI cS) (mcell g cI cS sa) mord g Am [.ref (g 99), .int x1] S (some (.int o.1)) o.2 :=
  gM_of O P (by decide) (Nat.le_of_ble_eq_true rfl) (fun p e s m args below meth c ls C X hl => bX12_shared_0 C O X (lv_sub hl [0, 1] rfl) hF)
-- has
noncomputable def fX12_has_b119 (N : Nat) (x3 : Int32) (S : gS) : Option (Int32 × gS) := some (x3, S)
theorem bX12_has_119 {N : Nat} {x3 : Int32} {S : gS} {H : Heap} {locs : List Loc} {ls : Array Slot} {o : Int32 × gS} (C : gC p s m args meth c cX12_has 6 RX12 ((some .int)) D (mtys cI cS) mord g Am) (O : gO (mcell g cI cS sa) mord g) (X : gX D (mcell g cI cS sa) mord g S s H locs) (hl : lv_has ls 6 [(3, .int x3)]) (hF : fX12_has_b119 N x3 S = some o) : W p l e (rmd 3) s m args below meth c H locs 0 0 (gE below args s D (mtys cI cS) (mcell g cI cS sa) mord g (some (.int o.1)) o.2) (F0 m 119 ls []) := by
  unfold fX12_has_b119 at hF
  refine lv_iload_n C.1.1 C.1.2.1 dX12_has_119 rfl (lv_at hl 0 rfl) ?_
  cases hF
  exact g_iret C X dX12_has_120
noncomputable def fX12_has_b111 (N : Nat) (r30 : Int32 → Int32 → Int32 → Int32 → gS → Option (Int32 × gS)) (x1 : Int32) (x3 : Int32) (x4 : Int32) (t0 : Int32) (t1 : Int32) (S : gS) : Option (Int32 × gS) := r30 x1 ((t0 ||| t1 : Int32)) x3 ((x4 + 1 : Int32)) S
theorem bX12_has_111 {N : Nat} {r30 : Int32 → Int32 → Int32 → Int32 → gS → Option (Int32 × gS)} {x1 : Int32} {x3 : Int32} {x4 : Int32} {t0 : Int32} {t1 : Int32} {S : gS} {H : Heap} {locs : List Loc} {ls : Array Slot} {o : Int32 × gS} (C : gC p s m args meth c cX12_has 6 RX12 ((some .int)) D (mtys cI cS) mord g Am) (O : gO (mcell g cI cS sa) mord g) (K30 : ∀ (x1 : Int32) (x2 : Int32) (x3 : Int32) (x4 : Int32) (S : gS) (H : Heap) (locs : List Loc) (ls : Array Slot), gX D (mcell g cI cS sa) mord g S s H locs → lv_has ls 6 [(0, .ref (g 99)), (1, .int x1), (2, .int x2), (3, .int x3), (4, .int x4)] → r30 x1 x2 x3 x4 S = some o → W p l e (rmd 3) s m args below meth c H locs 0 0 (gE below args s D (mtys cI cS) (mcell g cI cS sa) mord g (some (.int o.1)) o.2) (F0 m 30 ls [])) (X : gX D (mcell g cI cS sa) mord g S s H locs) (hl : lv_has ls 6 [(0, .ref (g 99)), (1, .int x1), (3, .int x3), (4, .int x4)]) (hF : fX12_has_b111 N r30 x1 x3 x4 t0 t1 S = some o) : W p l e (rmd 3) s m args below meth c H locs 0 0 (gE below args s D (mtys cI cS) (mcell g cI cS sa) mord g (some (.int o.1)) o.2) (F0 m 111 ls [.int t1, .int t0]) := by
  unfold fX12_has_b111 at hF
  refine lv_ior C.1.1 C.1.2.1 dX12_has_111 ?_
  refine lv_istore_n (lv' := [(2, .int ((t0 ||| t1 : Int32))), (0, .ref (g 99)), (1, .int x1), (3, .int x3), (4, .int x4)]) C.1.1 C.1.2.1 dX12_has_112 rfl hl (by decide) rfl (fun ls hl => ?_)
  refine lv_iinc (v := (x4 + 1 : Int32)) (lv' := [(4, .int ((x4 + 1 : Int32))), (2, .int ((t0 ||| t1 : Int32))), (0, .ref (g 99)), (1, .int x1), (3, .int x3)]) C.1.1 C.1.2.1 dX12_has_113 hl (k := 4) rfl rfl (by decide) rfl (fun ls hl => ?_)
  refine lv_goto (tgt := 30) C.1.1 C.1.2.1 dX12_has_116 (by decide) ?_
  exact K30 _ _ _ _ _ _ _ _ X (lv_sub hl [2, 3, 1, 4, 0] rfl) hF
noncomputable def fX12_has_b108 (N : Nat) (r30 : Int32 → Int32 → Int32 → Int32 → gS → Option (Int32 × gS)) (x1 : Int32) (x3 : Int32) (x4 : Int32) (t0 : Int32) (S : gS) : Option (Int32 × gS) := fX12_has_b111 N r30 x1 x3 x4 t0 (((1 : Int32) <<< (x3 &&& 31) : Int32)) S
theorem bX12_has_108 {N : Nat} {r30 : Int32 → Int32 → Int32 → Int32 → gS → Option (Int32 × gS)} {x1 : Int32} {x3 : Int32} {x4 : Int32} {t0 : Int32} {S : gS} {H : Heap} {locs : List Loc} {ls : Array Slot} {o : Int32 × gS} (C : gC p s m args meth c cX12_has 6 RX12 ((some .int)) D (mtys cI cS) mord g Am) (O : gO (mcell g cI cS sa) mord g) (K30 : ∀ (x1 : Int32) (x2 : Int32) (x3 : Int32) (x4 : Int32) (S : gS) (H : Heap) (locs : List Loc) (ls : Array Slot), gX D (mcell g cI cS sa) mord g S s H locs → lv_has ls 6 [(0, .ref (g 99)), (1, .int x1), (2, .int x2), (3, .int x3), (4, .int x4)] → r30 x1 x2 x3 x4 S = some o → W p l e (rmd 3) s m args below meth c H locs 0 0 (gE below args s D (mtys cI cS) (mcell g cI cS sa) mord g (some (.int o.1)) o.2) (F0 m 30 ls [])) (X : gX D (mcell g cI cS sa) mord g S s H locs) (hl : lv_has ls 6 [(0, .ref (g 99)), (1, .int x1), (3, .int x3), (4, .int x4)]) (hF : fX12_has_b108 N r30 x1 x3 x4 t0 S = some o) : W p l e (rmd 3) s m args below meth c H locs 0 0 (gE below args s D (mtys cI cS) (mcell g cI cS sa) mord g (some (.int o.1)) o.2) (F0 m 108 ls [.int t0]) := by
  unfold fX12_has_b108 at hF
  refine lv_iconst (v := 1) C.1.1 C.1.2.1 dX12_has_108 (by decide) ?_
  refine lv_iload_n C.1.1 C.1.2.1 dX12_has_109 rfl (lv_at hl 2 rfl) ?_
  refine lv_ishl C.1.1 C.1.2.1 dX12_has_110 ?_
  exact bX12_has_111 C O K30 X (lv_sub hl [0, 1, 2, 3] rfl) hF
noncomputable def fX12_has_b104 (N : Nat) (r30 : Int32 → Int32 → Int32 → Int32 → gS → Option (Int32 × gS)) (x1 : Int32) (x3 : Int32) (x4 : Int32) (t0 : Int32) (S : gS) : Option (Int32 × gS) := fX12_has_b111 N r30 x1 x3 x4 t0 0 S
theorem bX12_has_104 {N : Nat} {r30 : Int32 → Int32 → Int32 → Int32 → gS → Option (Int32 × gS)} {x1 : Int32} {x3 : Int32} {x4 : Int32} {t0 : Int32} {S : gS} {H : Heap} {locs : List Loc} {ls : Array Slot} {o : Int32 × gS} (C : gC p s m args meth c cX12_has 6 RX12 ((some .int)) D (mtys cI cS) mord g Am) (O : gO (mcell g cI cS sa) mord g) (K30 : ∀ (x1 : Int32) (x2 : Int32) (x3 : Int32) (x4 : Int32) (S : gS) (H : Heap) (locs : List Loc) (ls : Array Slot), gX D (mcell g cI cS sa) mord g S s H locs → lv_has ls 6 [(0, .ref (g 99)), (1, .int x1), (2, .int x2), (3, .int x3), (4, .int x4)] → r30 x1 x2 x3 x4 S = some o → W p l e (rmd 3) s m args below meth c H locs 0 0 (gE below args s D (mtys cI cS) (mcell g cI cS sa) mord g (some (.int o.1)) o.2) (F0 m 30 ls [])) (X : gX D (mcell g cI cS sa) mord g S s H locs) (hl : lv_has ls 6 [(0, .ref (g 99)), (1, .int x1), (3, .int x3), (4, .int x4)]) (hF : fX12_has_b104 N r30 x1 x3 x4 t0 S = some o) : W p l e (rmd 3) s m args below meth c H locs 0 0 (gE below args s D (mtys cI cS) (mcell g cI cS sa) mord g (some (.int o.1)) o.2) (F0 m 104 ls [.int t0]) := by
  unfold fX12_has_b104 at hF
  refine lv_iconst (v := 0) C.1.1 C.1.2.1 dX12_has_104 (by decide) ?_
  refine lv_goto (tgt := 111) C.1.1 C.1.2.1 dX12_has_105 (by decide) ?_
  exact bX12_has_111 C O K30 X (lv_sub hl [0, 1, 2, 3] rfl) hF
noncomputable def fX12_has_b98 (N : Nat) (r30 : Int32 → Int32 → Int32 → Int32 → gS → Option (Int32 × gS)) (x1 : Int32) (x2 : Int32) (x3 : Int32) (x4 : Int32) (S : gS) : Option (Int32 × gS) := if x3 = ((-1)) then fX12_has_b104 N r30 x1 x3 x4 x2 S else fX12_has_b108 N r30 x1 x3 x4 x2 S
theorem bX12_has_98 {N : Nat} {r30 : Int32 → Int32 → Int32 → Int32 → gS → Option (Int32 × gS)} {x1 : Int32} {x2 : Int32} {x3 : Int32} {x4 : Int32} {S : gS} {H : Heap} {locs : List Loc} {ls : Array Slot} {o : Int32 × gS} (C : gC p s m args meth c cX12_has 6 RX12 ((some .int)) D (mtys cI cS) mord g Am) (O : gO (mcell g cI cS sa) mord g) (K30 : ∀ (x1 : Int32) (x2 : Int32) (x3 : Int32) (x4 : Int32) (S : gS) (H : Heap) (locs : List Loc) (ls : Array Slot), gX D (mcell g cI cS sa) mord g S s H locs → lv_has ls 6 [(0, .ref (g 99)), (1, .int x1), (2, .int x2), (3, .int x3), (4, .int x4)] → r30 x1 x2 x3 x4 S = some o → W p l e (rmd 3) s m args below meth c H locs 0 0 (gE below args s D (mtys cI cS) (mcell g cI cS sa) mord g (some (.int o.1)) o.2) (F0 m 30 ls [])) (X : gX D (mcell g cI cS sa) mord g S s H locs) (hl : lv_has ls 6 [(0, .ref (g 99)), (1, .int x1), (2, .int x2), (3, .int x3), (4, .int x4)]) (hF : fX12_has_b98 N r30 x1 x2 x3 x4 S = some o) : W p l e (rmd 3) s m args below meth c H locs 0 0 (gE below args s D (mtys cI cS) (mcell g cI cS sa) mord g (some (.int o.1)) o.2) (F0 m 98 ls []) := by
  unfold fX12_has_b98 at hF
  refine lv_iload_n C.1.1 C.1.2.1 dX12_has_98 rfl (lv_at hl 2 rfl) ?_
  refine lv_iload_n C.1.1 C.1.2.1 dX12_has_99 rfl (lv_at hl 3 rfl) ?_
  refine lv_iconst (v := (-1)) C.1.1 C.1.2.1 dX12_has_100 (by decide) ?_
  refine lv_icmp_ne (tgt := 108) C.1.1 C.1.2.1 dX12_has_101 (by decide) (fun h_z => ?_) (fun h_z => ?_)
  · rw [if_neg h_z] at hF
    exact bX12_has_108 C O K30 X (lv_sub hl [0, 1, 3, 4] rfl) hF
  · rw [if_pos h_z] at hF
    exact bX12_has_104 C O K30 X (lv_sub hl [0, 1, 3, 4] rfl) hF
noncomputable def fX12_has_b92 (N : Nat) (r30 : Int32 → Int32 → Int32 → Int32 → gS → Option (Int32 × gS)) (r48 : Int32 → Int32 → Int32 → Int32 → Int32 → gS → Option (Int32 × gS)) (x1 : Int32) (x2 : Int32) (x3 : Int32) (x4 : Int32) (x5 : Int32) (S : gS) : Option (Int32 × gS) := r48 x1 x2 x3 x4 ((x5 + (-1) : Int32)) S
theorem bX12_has_92 {N : Nat} {r30 : Int32 → Int32 → Int32 → Int32 → gS → Option (Int32 × gS)} {r48 : Int32 → Int32 → Int32 → Int32 → Int32 → gS → Option (Int32 × gS)} {x1 : Int32} {x2 : Int32} {x3 : Int32} {x4 : Int32} {x5 : Int32} {S : gS} {H : Heap} {locs : List Loc} {ls : Array Slot} {o : Int32 × gS} (C : gC p s m args meth c cX12_has 6 RX12 ((some .int)) D (mtys cI cS) mord g Am) (O : gO (mcell g cI cS sa) mord g) (K30 : ∀ (x1 : Int32) (x2 : Int32) (x3 : Int32) (x4 : Int32) (S : gS) (H : Heap) (locs : List Loc) (ls : Array Slot), gX D (mcell g cI cS sa) mord g S s H locs → lv_has ls 6 [(0, .ref (g 99)), (1, .int x1), (2, .int x2), (3, .int x3), (4, .int x4)] → r30 x1 x2 x3 x4 S = some o → W p l e (rmd 3) s m args below meth c H locs 0 0 (gE below args s D (mtys cI cS) (mcell g cI cS sa) mord g (some (.int o.1)) o.2) (F0 m 30 ls [])) (K48 : ∀ (x1 : Int32) (x2 : Int32) (x3 : Int32) (x4 : Int32) (x5 : Int32) (S : gS) (H : Heap) (locs : List Loc) (ls : Array Slot), gX D (mcell g cI cS sa) mord g S s H locs → lv_has ls 6 [(0, .ref (g 99)), (1, .int x1), (2, .int x2), (3, .int x3), (4, .int x4), (5, .int x5)] → r48 x1 x2 x3 x4 x5 S = some o → W p l e (rmd 3) s m args below meth c H locs 0 0 (gE below args s D (mtys cI cS) (mcell g cI cS sa) mord g (some (.int o.1)) o.2) (F0 m 48 ls [])) (X : gX D (mcell g cI cS sa) mord g S s H locs) (hl : lv_has ls 6 [(0, .ref (g 99)), (1, .int x1), (2, .int x2), (3, .int x3), (4, .int x4), (5, .int x5)]) (hF : fX12_has_b92 N r30 r48 x1 x2 x3 x4 x5 S = some o) : W p l e (rmd 3) s m args below meth c H locs 0 0 (gE below args s D (mtys cI cS) (mcell g cI cS sa) mord g (some (.int o.1)) o.2) (F0 m 92 ls []) := by
  unfold fX12_has_b92 at hF
  refine lv_iinc (v := (x5 + (-1) : Int32)) (lv' := [(5, .int ((x5 + (-1) : Int32))), (0, .ref (g 99)), (1, .int x1), (2, .int x2), (3, .int x3), (4, .int x4)]) C.1.1 C.1.2.1 dX12_has_92 hl (k := 5) rfl rfl (by decide) rfl (fun ls hl => ?_)
  refine lv_goto (tgt := 48) C.1.1 C.1.2.1 dX12_has_95 (by decide) ?_
  exact K48 _ _ _ _ _ _ _ _ _ X (lv_sub hl [1, 2, 3, 4, 5, 0] rfl) hF
noncomputable def fX12_has_b89 (N : Nat) (r30 : Int32 → Int32 → Int32 → Int32 → gS → Option (Int32 × gS)) (r48 : Int32 → Int32 → Int32 → Int32 → Int32 → gS → Option (Int32 × gS)) (x1 : Int32) (x2 : Int32) (x4 : Int32) (x5 : Int32) (S : gS) : Option (Int32 × gS) := fX12_has_b92 N r30 r48 x1 x2 x5 x4 x5 S
theorem bX12_has_89 {N : Nat} {r30 : Int32 → Int32 → Int32 → Int32 → gS → Option (Int32 × gS)} {r48 : Int32 → Int32 → Int32 → Int32 → Int32 → gS → Option (Int32 × gS)} {x1 : Int32} {x2 : Int32} {x4 : Int32} {x5 : Int32} {S : gS} {H : Heap} {locs : List Loc} {ls : Array Slot} {o : Int32 × gS} (C : gC p s m args meth c cX12_has 6 RX12 ((some .int)) D (mtys cI cS) mord g Am) (O : gO (mcell g cI cS sa) mord g) (K30 : ∀ (x1 : Int32) (x2 : Int32) (x3 : Int32) (x4 : Int32) (S : gS) (H : Heap) (locs : List Loc) (ls : Array Slot), gX D (mcell g cI cS sa) mord g S s H locs → lv_has ls 6 [(0, .ref (g 99)), (1, .int x1), (2, .int x2), (3, .int x3), (4, .int x4)] → r30 x1 x2 x3 x4 S = some o → W p l e (rmd 3) s m args below meth c H locs 0 0 (gE below args s D (mtys cI cS) (mcell g cI cS sa) mord g (some (.int o.1)) o.2) (F0 m 30 ls [])) (K48 : ∀ (x1 : Int32) (x2 : Int32) (x3 : Int32) (x4 : Int32) (x5 : Int32) (S : gS) (H : Heap) (locs : List Loc) (ls : Array Slot), gX D (mcell g cI cS sa) mord g S s H locs → lv_has ls 6 [(0, .ref (g 99)), (1, .int x1), (2, .int x2), (3, .int x3), (4, .int x4), (5, .int x5)] → r48 x1 x2 x3 x4 x5 S = some o → W p l e (rmd 3) s m args below meth c H locs 0 0 (gE below args s D (mtys cI cS) (mcell g cI cS sa) mord g (some (.int o.1)) o.2) (F0 m 48 ls [])) (X : gX D (mcell g cI cS sa) mord g S s H locs) (hl : lv_has ls 6 [(0, .ref (g 99)), (1, .int x1), (2, .int x2), (4, .int x4), (5, .int x5)]) (hF : fX12_has_b89 N r30 r48 x1 x2 x4 x5 S = some o) : W p l e (rmd 3) s m args below meth c H locs 0 0 (gE below args s D (mtys cI cS) (mcell g cI cS sa) mord g (some (.int o.1)) o.2) (F0 m 89 ls []) := by
  unfold fX12_has_b89 at hF
  refine lv_iload C.1.1 C.1.2.1 dX12_has_89 (lv_at hl 4 rfl) ?_
  refine lv_istore_n (lv' := [(3, .int x5), (0, .ref (g 99)), (1, .int x1), (2, .int x2), (4, .int x4), (5, .int x5)]) C.1.1 C.1.2.1 dX12_has_91 rfl hl (by decide) rfl (fun ls hl => ?_)
  exact bX12_has_92 C O K30 K48 X (lv_sub hl [1, 2, 3, 0, 4, 5] rfl) hF
noncomputable def fX12_has_b65 (N : Nat) (r30 : Int32 → Int32 → Int32 → Int32 → gS → Option (Int32 × gS)) (r48 : Int32 → Int32 → Int32 → Int32 → Int32 → gS → Option (Int32 × gS)) (x1 : Int32) (x2 : Int32) (x3 : Int32) (x4 : Int32) (x5 : Int32) (S : gS) : Option (Int32 × gS) := bnd (fX12_with N x4 x2 x5 S) fun q1 => (chk (inb ((((x4 <<< ((8 : Int32) &&& 31) : Int32)) + x2 : Int32)) (1792)) (if q1.1 = (q1.2 47 (Int32.toNatClampNeg ((((x4 <<< ((8 : Int32) &&& 31) : Int32)) + x2 : Int32)))) then fX12_has_b89 N r30 r48 x1 x2 x4 x5 q1.2 else fX12_has_b92 N r30 r48 x1 x2 x3 x4 x5 q1.2))
theorem bX12_has_65 {N : Nat} {r30 : Int32 → Int32 → Int32 → Int32 → gS → Option (Int32 × gS)} {r48 : Int32 → Int32 → Int32 → Int32 → Int32 → gS → Option (Int32 × gS)} {x1 : Int32} {x2 : Int32} {x3 : Int32} {x4 : Int32} {x5 : Int32} {S : gS} {H : Heap} {locs : List Loc} {ls : Array Slot} {o : Int32 × gS} (C : gC p s m args meth c cX12_has 6 RX12 ((some .int)) D (mtys cI cS) mord g Am) (O : gO (mcell g cI cS sa) mord g) (K30 : ∀ (x1 : Int32) (x2 : Int32) (x3 : Int32) (x4 : Int32) (S : gS) (H : Heap) (locs : List Loc) (ls : Array Slot), gX D (mcell g cI cS sa) mord g S s H locs → lv_has ls 6 [(0, .ref (g 99)), (1, .int x1), (2, .int x2), (3, .int x3), (4, .int x4)] → r30 x1 x2 x3 x4 S = some o → W p l e (rmd 3) s m args below meth c H locs 0 0 (gE below args s D (mtys cI cS) (mcell g cI cS sa) mord g (some (.int o.1)) o.2) (F0 m 30 ls [])) (K48 : ∀ (x1 : Int32) (x2 : Int32) (x3 : Int32) (x4 : Int32) (x5 : Int32) (S : gS) (H : Heap) (locs : List Loc) (ls : Array Slot), gX D (mcell g cI cS sa) mord g S s H locs → lv_has ls 6 [(0, .ref (g 99)), (1, .int x1), (2, .int x2), (3, .int x3), (4, .int x4), (5, .int x5)] → r48 x1 x2 x3 x4 x5 S = some o → W p l e (rmd 3) s m args below meth c H locs 0 0 (gE below args s D (mtys cI cS) (mcell g cI cS sa) mord g (some (.int o.1)) o.2) (F0 m 48 ls [])) (X : gX D (mcell g cI cS sa) mord g S s H locs) (hl : lv_has ls 6 [(0, .ref (g 99)), (1, .int x1), (2, .int x2), (3, .int x3), (4, .int x4), (5, .int x5)]) (hF : fX12_has_b65 N r30 r48 x1 x2 x3 x4 x5 S = some o) : W p l e (rmd 3) s m args below meth c H locs 0 0 (gE below args s D (mtys cI cS) (mcell g cI cS sa) mord g (some (.int o.1)) o.2) (F0 m 65 ls []) := by
  unfold fX12_has_b65 at hF
  refine lv_aload_n C.1.1 C.1.2.1 dX12_has_65 rfl (lv_at hl 0 rfl) ?_
  refine lv_iload C.1.1 C.1.2.1 dX12_has_66 (lv_at hl 4 rfl) ?_
  refine lv_iload_n C.1.1 C.1.2.1 dX12_has_68 rfl (lv_at hl 2 rfl) ?_
  refine lv_iload C.1.1 C.1.2.1 dX12_has_69 (lv_at hl 5 rfl) ?_
  obtain ⟨q1, hq1, hF⟩ := bnd_some hF
  refine m_callVi C X vX12_with rfl (kX12_with O C.2.2.2.2.1 N x4 x2 x5  S q1 hq1) (Nat.le_of_ble_eq_true rfl) (Nat.le_of_ble_eq_true rfl) (Nat.le_of_ble_eq_true rfl) (Nat.le_of_ble_eq_true rfl) rfl hl.1 rfl (Nat.le_of_ble_eq_true rfl) dX12_has_71 (fun H locs X => ?_)
  refine lv_aload_n C.1.1 C.1.2.1 dX12_has_74 rfl (lv_at hl 0 rfl) ?_
  refine m_g47 C X dX12_has_75 ?_
  refine lv_iload C.1.1 C.1.2.1 dX12_has_78 (lv_at hl 4 rfl) ?_
  refine lv_bipush (v := 8) C.1.1 C.1.2.1 dX12_has_80 (by decide) ?_
  refine lv_ishl C.1.1 C.1.2.1 dX12_has_82 ?_
  refine lv_iload_n C.1.1 C.1.2.1 dX12_has_83 rfl (lv_at hl 2 rfl) ?_
  refine lv_iadd C.1.1 C.1.2.1 dX12_has_84 ?_
  obtain ⟨h_1, hF⟩ := chk_some hF
  refine m_r47 C X  (inb_vp h_1) rfl dX12_has_85 ?_
  refine lv_icmp_ne (tgt := 92) C.1.1 C.1.2.1 dX12_has_86 (by decide) (fun h_z => ?_) (fun h_z => ?_)
  · rw [if_neg h_z] at hF
    exact bX12_has_92 C O K30 K48 X (lv_sub hl [0, 1, 2, 3, 4, 5] rfl) hF
  · rw [if_pos h_z] at hF
    exact bX12_has_89 C O K30 K48 X (lv_sub hl [0, 1, 2, 4, 5] rfl) hF
noncomputable def fX12_has_b53 (N : Nat) (r30 : Int32 → Int32 → Int32 → Int32 → gS → Option (Int32 × gS)) (r48 : Int32 → Int32 → Int32 → Int32 → Int32 → gS → Option (Int32 × gS)) (x1 : Int32) (x2 : Int32) (x3 : Int32) (x4 : Int32) (x5 : Int32) (S : gS) : Option (Int32 × gS) := bnd (fX12_mayHave N x4 x2 x5 S) fun q1 => (if q1.1 = 0 then fX12_has_b92 N r30 r48 x1 x2 x3 x4 x5 q1.2 else fX12_has_b65 N r30 r48 x1 x2 x3 x4 x5 q1.2)
theorem bX12_has_53 {N : Nat} {r30 : Int32 → Int32 → Int32 → Int32 → gS → Option (Int32 × gS)} {r48 : Int32 → Int32 → Int32 → Int32 → Int32 → gS → Option (Int32 × gS)} {x1 : Int32} {x2 : Int32} {x3 : Int32} {x4 : Int32} {x5 : Int32} {S : gS} {H : Heap} {locs : List Loc} {ls : Array Slot} {o : Int32 × gS} (C : gC p s m args meth c cX12_has 6 RX12 ((some .int)) D (mtys cI cS) mord g Am) (O : gO (mcell g cI cS sa) mord g) (K30 : ∀ (x1 : Int32) (x2 : Int32) (x3 : Int32) (x4 : Int32) (S : gS) (H : Heap) (locs : List Loc) (ls : Array Slot), gX D (mcell g cI cS sa) mord g S s H locs → lv_has ls 6 [(0, .ref (g 99)), (1, .int x1), (2, .int x2), (3, .int x3), (4, .int x4)] → r30 x1 x2 x3 x4 S = some o → W p l e (rmd 3) s m args below meth c H locs 0 0 (gE below args s D (mtys cI cS) (mcell g cI cS sa) mord g (some (.int o.1)) o.2) (F0 m 30 ls [])) (K48 : ∀ (x1 : Int32) (x2 : Int32) (x3 : Int32) (x4 : Int32) (x5 : Int32) (S : gS) (H : Heap) (locs : List Loc) (ls : Array Slot), gX D (mcell g cI cS sa) mord g S s H locs → lv_has ls 6 [(0, .ref (g 99)), (1, .int x1), (2, .int x2), (3, .int x3), (4, .int x4), (5, .int x5)] → r48 x1 x2 x3 x4 x5 S = some o → W p l e (rmd 3) s m args below meth c H locs 0 0 (gE below args s D (mtys cI cS) (mcell g cI cS sa) mord g (some (.int o.1)) o.2) (F0 m 48 ls [])) (X : gX D (mcell g cI cS sa) mord g S s H locs) (hl : lv_has ls 6 [(0, .ref (g 99)), (1, .int x1), (2, .int x2), (3, .int x3), (4, .int x4), (5, .int x5)]) (hF : fX12_has_b53 N r30 r48 x1 x2 x3 x4 x5 S = some o) : W p l e (rmd 3) s m args below meth c H locs 0 0 (gE below args s D (mtys cI cS) (mcell g cI cS sa) mord g (some (.int o.1)) o.2) (F0 m 53 ls []) := by
  unfold fX12_has_b53 at hF
  refine lv_aload_n C.1.1 C.1.2.1 dX12_has_53 rfl (lv_at hl 0 rfl) ?_
  refine lv_iload C.1.1 C.1.2.1 dX12_has_54 (lv_at hl 4 rfl) ?_
  refine lv_iload_n C.1.1 C.1.2.1 dX12_has_56 rfl (lv_at hl 2 rfl) ?_
  refine lv_iload C.1.1 C.1.2.1 dX12_has_57 (lv_at hl 5 rfl) ?_
  obtain ⟨q1, hq1, hF⟩ := bnd_some hF
  refine m_callVi C X vX12_mayHave rfl (kX12_mayHave O C.2.2.2.2.1 N x4 x2 x5  S q1 hq1) (Nat.le_of_ble_eq_true rfl) (Nat.le_of_ble_eq_true rfl) (Nat.le_of_ble_eq_true rfl) (Nat.le_of_ble_eq_true rfl) rfl hl.1 rfl (Nat.le_of_ble_eq_true rfl) dX12_has_59 (fun H locs X => ?_)
  refine lv_if_eq (tgt := 92) C.1.1 C.1.2.1 dX12_has_62 (by decide) (fun h_z => ?_) (fun h_z => ?_)
  · rw [if_pos h_z] at hF
    exact bX12_has_92 C O K30 K48 X (lv_sub hl [0, 1, 2, 3, 4, 5] rfl) hF
  · rw [if_neg h_z] at hF
    exact bX12_has_65 C O K30 K48 X (lv_sub hl [0, 1, 2, 3, 4, 5] rfl) hF
noncomputable def fX12_has_b48 (N : Nat) (r30 : Int32 → Int32 → Int32 → Int32 → gS → Option (Int32 × gS)) (r48 : Int32 → Int32 → Int32 → Int32 → Int32 → gS → Option (Int32 × gS)) (x1 : Int32) (x2 : Int32) (x3 : Int32) (x4 : Int32) (x5 : Int32) (S : gS) : Option (Int32 × gS) := if x5 < 0 then fX12_has_b98 N r30 x1 x2 x3 x4 S else fX12_has_b53 N r30 r48 x1 x2 x3 x4 x5 S
theorem bX12_has_48 {N : Nat} {r30 : Int32 → Int32 → Int32 → Int32 → gS → Option (Int32 × gS)} {r48 : Int32 → Int32 → Int32 → Int32 → Int32 → gS → Option (Int32 × gS)} {x1 : Int32} {x2 : Int32} {x3 : Int32} {x4 : Int32} {x5 : Int32} {S : gS} {H : Heap} {locs : List Loc} {ls : Array Slot} {o : Int32 × gS} (C : gC p s m args meth c cX12_has 6 RX12 ((some .int)) D (mtys cI cS) mord g Am) (O : gO (mcell g cI cS sa) mord g) (K30 : ∀ (x1 : Int32) (x2 : Int32) (x3 : Int32) (x4 : Int32) (S : gS) (H : Heap) (locs : List Loc) (ls : Array Slot), gX D (mcell g cI cS sa) mord g S s H locs → lv_has ls 6 [(0, .ref (g 99)), (1, .int x1), (2, .int x2), (3, .int x3), (4, .int x4)] → r30 x1 x2 x3 x4 S = some o → W p l e (rmd 3) s m args below meth c H locs 0 0 (gE below args s D (mtys cI cS) (mcell g cI cS sa) mord g (some (.int o.1)) o.2) (F0 m 30 ls [])) (K48 : ∀ (x1 : Int32) (x2 : Int32) (x3 : Int32) (x4 : Int32) (x5 : Int32) (S : gS) (H : Heap) (locs : List Loc) (ls : Array Slot), gX D (mcell g cI cS sa) mord g S s H locs → lv_has ls 6 [(0, .ref (g 99)), (1, .int x1), (2, .int x2), (3, .int x3), (4, .int x4), (5, .int x5)] → r48 x1 x2 x3 x4 x5 S = some o → W p l e (rmd 3) s m args below meth c H locs 0 0 (gE below args s D (mtys cI cS) (mcell g cI cS sa) mord g (some (.int o.1)) o.2) (F0 m 48 ls [])) (X : gX D (mcell g cI cS sa) mord g S s H locs) (hl : lv_has ls 6 [(0, .ref (g 99)), (1, .int x1), (2, .int x2), (3, .int x3), (4, .int x4), (5, .int x5)]) (hF : fX12_has_b48 N r30 r48 x1 x2 x3 x4 x5 S = some o) : W p l e (rmd 3) s m args below meth c H locs 0 0 (gE below args s D (mtys cI cS) (mcell g cI cS sa) mord g (some (.int o.1)) o.2) (F0 m 48 ls []) := by
  unfold fX12_has_b48 at hF
  refine lv_iload C.1.1 C.1.2.1 dX12_has_48 (lv_at hl 5 rfl) ?_
  refine lv_if_lt (tgt := 98) C.1.1 C.1.2.1 dX12_has_50 (by decide) (fun h_z => ?_) (fun h_z => ?_)
  · rw [if_pos h_z] at hF
    exact bX12_has_98 C O K30 X (lv_sub hl [0, 1, 2, 3, 4] rfl) hF
  · rw [if_neg h_z] at hF
    exact bX12_has_53 C O K30 K48 X (lv_sub hl [0, 1, 2, 3, 4, 5] rfl) hF
noncomputable def fX12_has_h48 (N : Nat) (r30 : Int32 → Int32 → Int32 → Int32 → gS → Option (Int32 × gS)) : Nat → Int32 → Int32 → Int32 → Int32 → Int32 → gS → Option (Int32 × gS)
  | 0, _, _, _, _, _, _ => none
  | n + 1, x1, x2, x3, x4, x5, S => fX12_has_b48 N r30 (fX12_has_h48 N r30 n) x1 x2 x3 x4 x5 S
theorem hX12_has_48 {N : Nat} {r30 : Int32 → Int32 → Int32 → Int32 → gS → Option (Int32 × gS)} {o : Int32 × gS} (C : gC p s m args meth c cX12_has 6 RX12 ((some .int)) D (mtys cI cS) mord g Am) (O : gO (mcell g cI cS sa) mord g) (K30 : ∀ (x1 : Int32) (x2 : Int32) (x3 : Int32) (x4 : Int32) (S : gS) (H : Heap) (locs : List Loc) (ls : Array Slot), gX D (mcell g cI cS sa) mord g S s H locs → lv_has ls 6 [(0, .ref (g 99)), (1, .int x1), (2, .int x2), (3, .int x3), (4, .int x4)] → r30 x1 x2 x3 x4 S = some o → W p l e (rmd 3) s m args below meth c H locs 0 0 (gE below args s D (mtys cI cS) (mcell g cI cS sa) mord g (some (.int o.1)) o.2) (F0 m 30 ls [])) : ∀ (n : Nat) (x1 : Int32) (x2 : Int32) (x3 : Int32) (x4 : Int32) (x5 : Int32) (S : gS) (H : Heap) (locs : List Loc) (ls : Array Slot), gX D (mcell g cI cS sa) mord g S s H locs → lv_has ls 6 [(0, .ref (g 99)), (1, .int x1), (2, .int x2), (3, .int x3), (4, .int x4), (5, .int x5)] → fX12_has_h48 N r30 n x1 x2 x3 x4 x5 S = some o → W p l e (rmd 3) s m args below meth c H locs 0 0 (gE below args s D (mtys cI cS) (mcell g cI cS sa) mord g (some (.int o.1)) o.2) (F0 m 48 ls []) := by
  intro n
  induction n with
  | zero =>
    intro x1 x2 x3 x4 x5 S H locs ls X hl hF
    exact absurd (show (none : Option (Int32 × gS)) = some o from hF) (by simp)
  | succ n ih =>
    intro x1 x2 x3 x4 x5 S H locs ls X hl hF
    have hF : fX12_has_b48 N r30 (fX12_has_h48 N r30 n) x1 x2 x3 x4 x5 S = some o := hF
    exact bX12_has_48 C O K30 ih X hl hF
noncomputable def fX12_has_b36 (N : Nat) (r30 : Int32 → Int32 → Int32 → Int32 → gS → Option (Int32 × gS)) (x1 : Int32) (x2 : Int32) (x4 : Int32) (S : gS) : Option (Int32 × gS) := fX12_has_h48 N r30 N x1 x2 ((-1)) x4 (((S 5 0) - 1 : Int32)) S
theorem bX12_has_36 {N : Nat} {r30 : Int32 → Int32 → Int32 → Int32 → gS → Option (Int32 × gS)} {x1 : Int32} {x2 : Int32} {x4 : Int32} {S : gS} {H : Heap} {locs : List Loc} {ls : Array Slot} {o : Int32 × gS} (C : gC p s m args meth c cX12_has 6 RX12 ((some .int)) D (mtys cI cS) mord g Am) (O : gO (mcell g cI cS sa) mord g) (K30 : ∀ (x1 : Int32) (x2 : Int32) (x3 : Int32) (x4 : Int32) (S : gS) (H : Heap) (locs : List Loc) (ls : Array Slot), gX D (mcell g cI cS sa) mord g S s H locs → lv_has ls 6 [(0, .ref (g 99)), (1, .int x1), (2, .int x2), (3, .int x3), (4, .int x4)] → r30 x1 x2 x3 x4 S = some o → W p l e (rmd 3) s m args below meth c H locs 0 0 (gE below args s D (mtys cI cS) (mcell g cI cS sa) mord g (some (.int o.1)) o.2) (F0 m 30 ls [])) (X : gX D (mcell g cI cS sa) mord g S s H locs) (hl : lv_has ls 6 [(0, .ref (g 99)), (1, .int x1), (2, .int x2), (4, .int x4)]) (hF : fX12_has_b36 N r30 x1 x2 x4 S = some o) : W p l e (rmd 3) s m args below meth c H locs 0 0 (gE below args s D (mtys cI cS) (mcell g cI cS sa) mord g (some (.int o.1)) o.2) (F0 m 36 ls []) := by
  unfold fX12_has_b36 at hF
  refine lv_iconst (v := (-1)) C.1.1 C.1.2.1 dX12_has_36 (by decide) ?_
  refine lv_istore_n (lv' := [(3, .int ((-1))), (0, .ref (g 99)), (1, .int x1), (2, .int x2), (4, .int x4)]) C.1.1 C.1.2.1 dX12_has_37 rfl hl (by decide) rfl (fun ls hl => ?_)
  refine lv_aload_n C.1.1 C.1.2.1 dX12_has_38 rfl (lv_at hl 1 rfl) ?_
  refine m_g5 C X dX12_has_39 ?_
  refine lv_iconst (v := 0) C.1.1 C.1.2.1 dX12_has_42 (by decide) ?_
  refine m_r5 C X (j := 0) (inb_vp (by decide)) (by decide) dX12_has_43 ?_
  refine lv_iconst (v := 1) C.1.1 C.1.2.1 dX12_has_44 (by decide) ?_
  refine lv_isub C.1.1 C.1.2.1 dX12_has_45 ?_
  refine lv_istore (lv' := [(5, .int (((S 5 0) - 1 : Int32))), (3, .int ((-1))), (0, .ref (g 99)), (1, .int x1), (2, .int x2), (4, .int x4)]) C.1.1 C.1.2.1 dX12_has_46 hl (by decide) rfl (fun ls hl => ?_)
  exact hX12_has_48 C O K30 N _ _ _ _ _ _ _ _ _ X (lv_sub hl [2, 3, 4, 1, 5, 0] rfl) hF
noncomputable def fX12_has_b30 (N : Nat) (r30 : Int32 → Int32 → Int32 → Int32 → gS → Option (Int32 × gS)) (x1 : Int32) (x2 : Int32) (x3 : Int32) (x4 : Int32) (S : gS) : Option (Int32 × gS) := if x1 < x4 then fX12_has_b119 N x3 S else fX12_has_b36 N r30 x1 x2 x4 S
theorem bX12_has_30 {N : Nat} {r30 : Int32 → Int32 → Int32 → Int32 → gS → Option (Int32 × gS)} {x1 : Int32} {x2 : Int32} {x3 : Int32} {x4 : Int32} {S : gS} {H : Heap} {locs : List Loc} {ls : Array Slot} {o : Int32 × gS} (C : gC p s m args meth c cX12_has 6 RX12 ((some .int)) D (mtys cI cS) mord g Am) (O : gO (mcell g cI cS sa) mord g) (K30 : ∀ (x1 : Int32) (x2 : Int32) (x3 : Int32) (x4 : Int32) (S : gS) (H : Heap) (locs : List Loc) (ls : Array Slot), gX D (mcell g cI cS sa) mord g S s H locs → lv_has ls 6 [(0, .ref (g 99)), (1, .int x1), (2, .int x2), (3, .int x3), (4, .int x4)] → r30 x1 x2 x3 x4 S = some o → W p l e (rmd 3) s m args below meth c H locs 0 0 (gE below args s D (mtys cI cS) (mcell g cI cS sa) mord g (some (.int o.1)) o.2) (F0 m 30 ls [])) (X : gX D (mcell g cI cS sa) mord g S s H locs) (hl : lv_has ls 6 [(0, .ref (g 99)), (1, .int x1), (2, .int x2), (3, .int x3), (4, .int x4)]) (hF : fX12_has_b30 N r30 x1 x2 x3 x4 S = some o) : W p l e (rmd 3) s m args below meth c H locs 0 0 (gE below args s D (mtys cI cS) (mcell g cI cS sa) mord g (some (.int o.1)) o.2) (F0 m 30 ls []) := by
  unfold fX12_has_b30 at hF
  refine lv_iload C.1.1 C.1.2.1 dX12_has_30 (lv_at hl 4 rfl) ?_
  refine lv_iload_n C.1.1 C.1.2.1 dX12_has_32 rfl (lv_at hl 1 rfl) ?_
  refine lv_icmp_gt (tgt := 119) C.1.1 C.1.2.1 dX12_has_33 (by decide) (fun h_z => ?_) (fun h_z => ?_)
  · rw [if_pos h_z] at hF
    exact bX12_has_119 C O X (lv_sub hl [3] rfl) hF
  · rw [if_neg h_z] at hF
    exact bX12_has_36 C O K30 X (lv_sub hl [0, 1, 2, 4] rfl) hF
noncomputable def fX12_has_h30 (N : Nat) : Nat → Int32 → Int32 → Int32 → Int32 → gS → Option (Int32 × gS)
  | 0, _, _, _, _, _ => none
  | n + 1, x1, x2, x3, x4, S => fX12_has_b30 N (fX12_has_h30 N n) x1 x2 x3 x4 S
theorem hX12_has_30 {N : Nat} {o : Int32 × gS} (C : gC p s m args meth c cX12_has 6 RX12 ((some .int)) D (mtys cI cS) mord g Am) (O : gO (mcell g cI cS sa) mord g) : ∀ (n : Nat) (x1 : Int32) (x2 : Int32) (x3 : Int32) (x4 : Int32) (S : gS) (H : Heap) (locs : List Loc) (ls : Array Slot), gX D (mcell g cI cS sa) mord g S s H locs → lv_has ls 6 [(0, .ref (g 99)), (1, .int x1), (2, .int x2), (3, .int x3), (4, .int x4)] → fX12_has_h30 N n x1 x2 x3 x4 S = some o → W p l e (rmd 3) s m args below meth c H locs 0 0 (gE below args s D (mtys cI cS) (mcell g cI cS sa) mord g (some (.int o.1)) o.2) (F0 m 30 ls []) := by
  intro n
  induction n with
  | zero =>
    intro x1 x2 x3 x4 S H locs ls X hl hF
    exact absurd (show (none : Option (Int32 × gS)) = some o from hF) (by simp)
  | succ n ih =>
    intro x1 x2 x3 x4 S H locs ls X hl hF
    have hF : fX12_has_b30 N (fX12_has_h30 N n) x1 x2 x3 x4 S = some o := hF
    exact bX12_has_30 C O ih X hl hF
noncomputable def fX12_has_b19 (N : Nat) (x1 : Int32) (S : gS) : Option (Int32 × gS) := bnd (fX12_tellLeast N  S) fun q1 => (fX12_has_h30 N N x1 0 ((-1)) 0 q1.2)
theorem bX12_has_19 {N : Nat} {x1 : Int32} {S : gS} {H : Heap} {locs : List Loc} {ls : Array Slot} {o : Int32 × gS} (C : gC p s m args meth c cX12_has 6 RX12 ((some .int)) D (mtys cI cS) mord g Am) (O : gO (mcell g cI cS sa) mord g) (X : gX D (mcell g cI cS sa) mord g S s H locs) (hl : lv_has ls 6 [(0, .ref (g 99)), (1, .int x1)]) (hF : fX12_has_b19 N x1 S = some o) : W p l e (rmd 3) s m args below meth c H locs 0 0 (gE below args s D (mtys cI cS) (mcell g cI cS sa) mord g (some (.int o.1)) o.2) (F0 m 19 ls []) := by
  unfold fX12_has_b19 at hF
  refine lv_aload_n C.1.1 C.1.2.1 dX12_has_19 rfl (lv_at hl 0 rfl) ?_
  obtain ⟨q1, hq1, hF⟩ := bnd_some hF
  refine m_callV C X vX12_tellLeast rfl (kX12_tellLeast O C.2.2.2.2.1 N   S q1 hq1) (Nat.le_of_ble_eq_true rfl) (Nat.le_of_ble_eq_true rfl) (Nat.le_of_ble_eq_true rfl) (Nat.le_of_ble_eq_true rfl) rfl hl.1 rfl (Nat.le_of_ble_eq_true rfl) dX12_has_20 (fun H locs X => ?_)
  refine lv_iconst (v := 0) C.1.1 C.1.2.1 dX12_has_23 (by decide) ?_
  refine lv_istore_n (lv' := [(2, .int 0), (0, .ref (g 99)), (1, .int x1)]) C.1.1 C.1.2.1 dX12_has_24 rfl hl (by decide) rfl (fun ls hl => ?_)
  refine lv_iconst (v := (-1)) C.1.1 C.1.2.1 dX12_has_25 (by decide) ?_
  refine lv_istore_n (lv' := [(3, .int ((-1))), (2, .int 0), (0, .ref (g 99)), (1, .int x1)]) C.1.1 C.1.2.1 dX12_has_26 rfl hl (by decide) rfl (fun ls hl => ?_)
  refine lv_iconst (v := 0) C.1.1 C.1.2.1 dX12_has_27 (by decide) ?_
  refine lv_istore (lv' := [(4, .int 0), (3, .int ((-1))), (2, .int 0), (0, .ref (g 99)), (1, .int x1)]) C.1.1 C.1.2.1 dX12_has_28 hl (by decide) rfl (fun ls hl => ?_)
  exact hX12_has_30 C O N _ _ _ _ _ _ _ _ X (lv_sub hl [3, 4, 2, 1, 0] rfl) hF
noncomputable def fX12_has_b13 (N : Nat) (S : gS) : Option (Int32 × gS) := bnd (fX12_fail N 1 S) fun q1 => (some (q1.1, q1.2))
theorem bX12_has_13 {N : Nat} {S : gS} {H : Heap} {locs : List Loc} {ls : Array Slot} {o : Int32 × gS} (C : gC p s m args meth c cX12_has 6 RX12 ((some .int)) D (mtys cI cS) mord g Am) (O : gO (mcell g cI cS sa) mord g) (X : gX D (mcell g cI cS sa) mord g S s H locs) (hl : lv_has ls 6 [(0, .ref (g 99))]) (hF : fX12_has_b13 N S = some o) : W p l e (rmd 3) s m args below meth c H locs 0 0 (gE below args s D (mtys cI cS) (mcell g cI cS sa) mord g (some (.int o.1)) o.2) (F0 m 13 ls []) := by
  unfold fX12_has_b13 at hF
  refine lv_aload_n C.1.1 C.1.2.1 dX12_has_13 rfl (lv_at hl 0 rfl) ?_
  refine lv_iconst (v := 1) C.1.1 C.1.2.1 dX12_has_14 (by decide) ?_
  obtain ⟨q1, hq1, hF⟩ := bnd_some hF
  refine m_callVi C X vX12_fail rfl (kX12_fail O C.2.2.2.2.1 N 1  S q1 hq1) (Nat.le_of_ble_eq_true rfl) (Nat.le_of_ble_eq_true rfl) (Nat.le_of_ble_eq_true rfl) (Nat.le_of_ble_eq_true rfl) rfl hl.1 rfl (Nat.le_of_ble_eq_true rfl) dX12_has_15 (fun H locs X => ?_)
  cases hF
  exact g_iret C X dX12_has_18
noncomputable def fX12_has_b0 (N : Nat) (x1 : Int32) (S : gS) : Option (Int32 × gS) := lt (sU S 99 4 0) fun S1 => (bnd (fX12_isGuild N x1 S1) fun q1 => (if q1.1 = 0 then fX12_has_b13 N q1.2 else fX12_has_b19 N x1 q1.2))
theorem bX12_has_0 {N : Nat} {x1 : Int32} {S : gS} {H : Heap} {locs : List Loc} {ls : Array Slot} {o : Int32 × gS} (C : gC p s m args meth c cX12_has 6 RX12 ((some .int)) D (mtys cI cS) mord g Am) (O : gO (mcell g cI cS sa) mord g) (X : gX D (mcell g cI cS sa) mord g S s H locs) (hl : lv_has ls 6 [(0, .ref (g 99)), (1, .int x1)]) (hF : fX12_has_b0 N x1 S = some o) : W p l e (rmd 3) s m args below meth c H locs 0 0 (gE below args s D (mtys cI cS) (mcell g cI cS sa) mord g (some (.int o.1)) o.2) (F0 m 0 ls []) := by
  unfold fX12_has_b0 at hF
  refine lv_aload_n C.1.1 C.1.2.1 dX12_has_0 rfl (lv_at hl 0 rfl) ?_
  refine lv_iconst (v := 0) C.1.1 C.1.2.1 dX12_has_1 (by decide) ?_
  obtain ⟨S1, eS1, hF⟩ := lt_some hF
  refine m_p4 C O X eS1 dX12_has_2 (fun H locs X => ?_)
  refine lv_aload_n C.1.1 C.1.2.1 dX12_has_5 rfl (lv_at hl 0 rfl) ?_
  refine lv_iload_n C.1.1 C.1.2.1 dX12_has_6 rfl (lv_at hl 1 rfl) ?_
  obtain ⟨q1, hq1, hF⟩ := bnd_some hF
  refine m_callVi C X vX12_isGuild rfl (kX12_isGuild O C.2.2.2.2.1 N x1  S1 q1 hq1) (Nat.le_of_ble_eq_true rfl) (Nat.le_of_ble_eq_true rfl) (Nat.le_of_ble_eq_true rfl) (Nat.le_of_ble_eq_true rfl) rfl hl.1 rfl (Nat.le_of_ble_eq_true rfl) dX12_has_7 (fun H locs X => ?_)
  refine lv_if_ne (tgt := 19) C.1.1 C.1.2.1 dX12_has_10 (by decide) (fun h_z => ?_) (fun h_z => ?_)
  · rw [if_neg h_z] at hF
    exact bX12_has_19 C O X (lv_sub hl [0, 1] rfl) hF
  · rw [if_pos h_z] at hF
    exact bX12_has_13 C O X (lv_sub hl [0] rfl) hF
noncomputable def fX12_has (N : Nat) (x1 : Int32) (S : gS) : Option (Int32 × gS) := fX12_has_b0 N x1 S
theorem kX12_has {l : Launch} {D : va_G} {g : Nat → Nat} {cI cS : ClassId} {sa : Nat → Nat → Option Nat} {Am : (Nat → Prop) → State → Heap → Prop} (O : gO (mcell g cI cS sa) mord g) (P : gAm Am) (N : Nat) (x1 : Int32) (S : gS) (o : Int32 × gS) (hF : fX12_has N x1 S = some o) : gM l yX12_has cX12_has 6 ((some .int)) 3 D (mtys cI cS) (mcell g cI cS sa) mord g Am [.ref (g 99), .int x1] S (some (.int o.1)) o.2 :=
  gM_of O P (by decide) (Nat.le_of_ble_eq_true rfl) (fun p e s m args below meth c ls C X hl => bX12_has_0 C O X (lv_sub hl [0, 1] rfl) hF)
-- toGive
noncomputable def fX12_toGive_b120 (N : Nat) (x4 : Int32) (S : gS) : Option (Int32 × gS) := some (x4, S)
theorem bX12_toGive_120 {N : Nat} {x4 : Int32} {S : gS} {H : Heap} {locs : List Loc} {ls : Array Slot} {o : Int32 × gS} (C : gC p s m args meth c cX12_toGive 6 RX12 ((some .int)) D (mtys cI cS) mord g Am) (O : gO (mcell g cI cS sa) mord g) (X : gX D (mcell g cI cS sa) mord g S s H locs) (hl : lv_has ls 6 [(4, .int x4)]) (hF : fX12_toGive_b120 N x4 S = some o) : W p l e (rmd 7) s m args below meth c H locs 0 0 (gE below args s D (mtys cI cS) (mcell g cI cS sa) mord g (some (.int o.1)) o.2) (F0 m 120 ls []) := by
  unfold fX12_toGive_b120 at hF
  refine lv_iload C.1.1 C.1.2.1 dX12_toGive_120 (lv_at hl 0 rfl) ?_
  cases hF
  exact g_iret C X dX12_toGive_122
noncomputable def fX12_toGive_b105 (N : Nat) (r59 : Int32 → Int32 → Int32 → Int32 → Int32 → gS → Option (Int32 × gS)) (x1 : Int32) (x2 : Int32) (x3 : Int32) (x4 : Int32) (x5 : Int32) (S : gS) : Option (Int32 × gS) := bnd (fX12_unpack N 46 0 S) fun q1 => (r59 x1 x2 x3 x4 ((x5 + 1 : Int32)) q1.2)
theorem bX12_toGive_105 {N : Nat} {r59 : Int32 → Int32 → Int32 → Int32 → Int32 → gS → Option (Int32 × gS)} {x1 : Int32} {x2 : Int32} {x3 : Int32} {x4 : Int32} {x5 : Int32} {S : gS} {H : Heap} {locs : List Loc} {ls : Array Slot} {o : Int32 × gS} (C : gC p s m args meth c cX12_toGive 6 RX12 ((some .int)) D (mtys cI cS) mord g Am) (O : gO (mcell g cI cS sa) mord g) (K59 : ∀ (x1 : Int32) (x2 : Int32) (x3 : Int32) (x4 : Int32) (x5 : Int32) (S : gS) (H : Heap) (locs : List Loc) (ls : Array Slot), gX D (mcell g cI cS sa) mord g S s H locs → lv_has ls 6 [(0, .ref (g 99)), (1, .int x1), (2, .int x2), (3, .int x3), (4, .int x4), (5, .int x5)] → r59 x1 x2 x3 x4 x5 S = some o → W p l e (rmd 7) s m args below meth c H locs 0 0 (gE below args s D (mtys cI cS) (mcell g cI cS sa) mord g (some (.int o.1)) o.2) (F0 m 59 ls [])) (X : gX D (mcell g cI cS sa) mord g S s H locs) (hl : lv_has ls 6 [(0, .ref (g 99)), (1, .int x1), (2, .int x2), (3, .int x3), (4, .int x4), (5, .int x5)]) (hF : fX12_toGive_b105 N r59 x1 x2 x3 x4 x5 S = some o) : W p l e (rmd 7) s m args below meth c H locs 0 0 (gE below args s D (mtys cI cS) (mcell g cI cS sa) mord g (some (.int o.1)) o.2) (F0 m 105 ls []) := by
  unfold fX12_toGive_b105 at hF
  refine lv_aload_n C.1.1 C.1.2.1 dX12_toGive_105 rfl (lv_at hl 0 rfl) ?_
  refine lv_aload_n C.1.1 C.1.2.1 dX12_toGive_106 rfl (lv_at hl 0 rfl) ?_
  refine m_g46 C X dX12_toGive_107 ?_
  refine lv_iconst (v := 0) C.1.1 C.1.2.1 dX12_toGive_110 (by decide) ?_
  obtain ⟨q1, hq1, hF⟩ := bnd_some hF
  refine m_callV C X vX12_unpack rfl (kX12_unpack O C.2.2.2.2.1 N 46 0 (rfl : mI 46 = true) S q1 hq1) (Nat.le_of_ble_eq_true rfl) (Nat.le_of_ble_eq_true rfl) (Nat.le_of_ble_eq_true rfl) (Nat.le_of_ble_eq_true rfl) rfl hl.1 rfl (Nat.le_of_ble_eq_true rfl) dX12_toGive_111 (fun H locs X => ?_)
  refine lv_iinc (v := (x5 + 1 : Int32)) (lv' := [(5, .int ((x5 + 1 : Int32))), (0, .ref (g 99)), (1, .int x1), (2, .int x2), (3, .int x3), (4, .int x4)]) C.1.1 C.1.2.1 dX12_toGive_114 hl (k := 5) rfl rfl (by decide) rfl (fun ls hl => ?_)
  refine lv_goto (tgt := 59) C.1.1 C.1.2.1 dX12_toGive_117 (by decide) ?_
  exact K59 _ _ _ _ _ _ _ _ _ X (lv_sub hl [1, 2, 3, 4, 5, 0] rfl) hF
noncomputable def fX12_toGive_b101 (N : Nat) (r59 : Int32 → Int32 → Int32 → Int32 → Int32 → gS → Option (Int32 × gS)) (x1 : Int32) (x2 : Int32) (x3 : Int32) (x5 : Int32) (S : gS) : Option (Int32 × gS) := fX12_toGive_b105 N r59 x1 x2 x3 x5 x5 S
theorem bX12_toGive_101 {N : Nat} {r59 : Int32 → Int32 → Int32 → Int32 → Int32 → gS → Option (Int32 × gS)} {x1 : Int32} {x2 : Int32} {x3 : Int32} {x5 : Int32} {S : gS} {H : Heap} {locs : List Loc} {ls : Array Slot} {o : Int32 × gS} (C : gC p s m args meth c cX12_toGive 6 RX12 ((some .int)) D (mtys cI cS) mord g Am) (O : gO (mcell g cI cS sa) mord g) (K59 : ∀ (x1 : Int32) (x2 : Int32) (x3 : Int32) (x4 : Int32) (x5 : Int32) (S : gS) (H : Heap) (locs : List Loc) (ls : Array Slot), gX D (mcell g cI cS sa) mord g S s H locs → lv_has ls 6 [(0, .ref (g 99)), (1, .int x1), (2, .int x2), (3, .int x3), (4, .int x4), (5, .int x5)] → r59 x1 x2 x3 x4 x5 S = some o → W p l e (rmd 7) s m args below meth c H locs 0 0 (gE below args s D (mtys cI cS) (mcell g cI cS sa) mord g (some (.int o.1)) o.2) (F0 m 59 ls [])) (X : gX D (mcell g cI cS sa) mord g S s H locs) (hl : lv_has ls 6 [(0, .ref (g 99)), (1, .int x1), (2, .int x2), (3, .int x3), (5, .int x5)]) (hF : fX12_toGive_b101 N r59 x1 x2 x3 x5 S = some o) : W p l e (rmd 7) s m args below meth c H locs 0 0 (gE below args s D (mtys cI cS) (mcell g cI cS sa) mord g (some (.int o.1)) o.2) (F0 m 101 ls []) := by
  unfold fX12_toGive_b101 at hF
  refine lv_iload C.1.1 C.1.2.1 dX12_toGive_101 (lv_at hl 4 rfl) ?_
  refine lv_istore (lv' := [(4, .int x5), (0, .ref (g 99)), (1, .int x1), (2, .int x2), (3, .int x3), (5, .int x5)]) C.1.1 C.1.2.1 dX12_toGive_103 hl (by decide) rfl (fun ls hl => ?_)
  exact bX12_toGive_105 C O K59 X (lv_sub hl [1, 2, 3, 4, 0, 5] rfl) hF
noncomputable def fX12_toGive_b78 (N : Nat) (r59 : Int32 → Int32 → Int32 → Int32 → Int32 → gS → Option (Int32 × gS)) (x1 : Int32) (x2 : Int32) (x3 : Int32) (x4 : Int32) (x5 : Int32) (S : gS) : Option (Int32 × gS) := chk (inb x1 (6)) (lt (sU S 33 (Int32.toNatClampNeg x1) x5) fun S1 => (bnd (fX12_goOn N x2 S1) fun q1 => (chk (inb x1 (6)) (if (q1.2 35 (Int32.toNatClampNeg x1)) = x3 then fX12_toGive_b101 N r59 x1 x2 x3 x5 q1.2 else fX12_toGive_b105 N r59 x1 x2 x3 x4 x5 q1.2))))
theorem bX12_toGive_78 {N : Nat} {r59 : Int32 → Int32 → Int32 → Int32 → Int32 → gS → Option (Int32 × gS)} {x1 : Int32} {x2 : Int32} {x3 : Int32} {x4 : Int32} {x5 : Int32} {S : gS} {H : Heap} {locs : List Loc} {ls : Array Slot} {o : Int32 × gS} (C : gC p s m args meth c cX12_toGive 6 RX12 ((some .int)) D (mtys cI cS) mord g Am) (O : gO (mcell g cI cS sa) mord g) (K59 : ∀ (x1 : Int32) (x2 : Int32) (x3 : Int32) (x4 : Int32) (x5 : Int32) (S : gS) (H : Heap) (locs : List Loc) (ls : Array Slot), gX D (mcell g cI cS sa) mord g S s H locs → lv_has ls 6 [(0, .ref (g 99)), (1, .int x1), (2, .int x2), (3, .int x3), (4, .int x4), (5, .int x5)] → r59 x1 x2 x3 x4 x5 S = some o → W p l e (rmd 7) s m args below meth c H locs 0 0 (gE below args s D (mtys cI cS) (mcell g cI cS sa) mord g (some (.int o.1)) o.2) (F0 m 59 ls [])) (X : gX D (mcell g cI cS sa) mord g S s H locs) (hl : lv_has ls 6 [(0, .ref (g 99)), (1, .int x1), (2, .int x2), (3, .int x3), (4, .int x4), (5, .int x5)]) (hF : fX12_toGive_b78 N r59 x1 x2 x3 x4 x5 S = some o) : W p l e (rmd 7) s m args below meth c H locs 0 0 (gE below args s D (mtys cI cS) (mcell g cI cS sa) mord g (some (.int o.1)) o.2) (F0 m 78 ls []) := by
  unfold fX12_toGive_b78 at hF
  refine lv_aload_n C.1.1 C.1.2.1 dX12_toGive_78 rfl (lv_at hl 0 rfl) ?_
  refine m_g33 C X dX12_toGive_79 ?_
  refine lv_iload_n C.1.1 C.1.2.1 dX12_toGive_82 rfl (lv_at hl 1 rfl) ?_
  refine lv_iload C.1.1 C.1.2.1 dX12_toGive_83 (lv_at hl 5 rfl) ?_
  obtain ⟨h_1, hF⟩ := chk_some hF
  obtain ⟨S1, eS1, hF⟩ := lt_some hF
  refine m_w33 C O X  (inb_vp h_1) rfl eS1 dX12_toGive_85 (fun H locs X => ?_)
  refine lv_aload_n C.1.1 C.1.2.1 dX12_toGive_86 rfl (lv_at hl 0 rfl) ?_
  refine lv_iload_n C.1.1 C.1.2.1 dX12_toGive_87 rfl (lv_at hl 2 rfl) ?_
  obtain ⟨q1, hq1, hF⟩ := bnd_some hF
  refine m_callV C X vX12_goOn rfl (kX12_goOn O C.2.2.2.2.1 N x2  S1 q1 hq1) (Nat.le_of_ble_eq_true rfl) (Nat.le_of_ble_eq_true rfl) (Nat.le_of_ble_eq_true rfl) (Nat.le_of_ble_eq_true rfl) rfl hl.1 rfl (Nat.le_of_ble_eq_true rfl) dX12_toGive_88 (fun H locs X => ?_)
  refine lv_aload_n C.1.1 C.1.2.1 dX12_toGive_91 rfl (lv_at hl 0 rfl) ?_
  refine m_g35 C X dX12_toGive_92 ?_
  refine lv_iload_n C.1.1 C.1.2.1 dX12_toGive_95 rfl (lv_at hl 1 rfl) ?_
  obtain ⟨h_2, hF⟩ := chk_some hF
  refine m_r35 C X  (inb_vp h_2) rfl dX12_toGive_96 ?_
  refine lv_iload_n C.1.1 C.1.2.1 dX12_toGive_97 rfl (lv_at hl 3 rfl) ?_
  refine lv_icmp_ne (tgt := 105) C.1.1 C.1.2.1 dX12_toGive_98 (by decide) (fun h_z => ?_) (fun h_z => ?_)
  · rw [if_neg h_z] at hF
    exact bX12_toGive_105 C O K59 X (lv_sub hl [0, 1, 2, 3, 4, 5] rfl) hF
  · rw [if_pos h_z] at hF
    exact bX12_toGive_101 C O K59 X (lv_sub hl [0, 1, 2, 3, 5] rfl) hF
noncomputable def fX12_toGive_b73 (N : Nat) (r59 : Int32 → Int32 → Int32 → Int32 → Int32 → gS → Option (Int32 × gS)) (x1 : Int32) (x2 : Int32) (x3 : Int32) (x4 : Int32) (x5 : Int32) (S : gS) : Option (Int32 × gS) := if x3 = ((-1)) then fX12_toGive_b120 N x4 S else fX12_toGive_b78 N r59 x1 x2 x3 x4 x5 S
theorem bX12_toGive_73 {N : Nat} {r59 : Int32 → Int32 → Int32 → Int32 → Int32 → gS → Option (Int32 × gS)} {x1 : Int32} {x2 : Int32} {x3 : Int32} {x4 : Int32} {x5 : Int32} {S : gS} {H : Heap} {locs : List Loc} {ls : Array Slot} {o : Int32 × gS} (C : gC p s m args meth c cX12_toGive 6 RX12 ((some .int)) D (mtys cI cS) mord g Am) (O : gO (mcell g cI cS sa) mord g) (K59 : ∀ (x1 : Int32) (x2 : Int32) (x3 : Int32) (x4 : Int32) (x5 : Int32) (S : gS) (H : Heap) (locs : List Loc) (ls : Array Slot), gX D (mcell g cI cS sa) mord g S s H locs → lv_has ls 6 [(0, .ref (g 99)), (1, .int x1), (2, .int x2), (3, .int x3), (4, .int x4), (5, .int x5)] → r59 x1 x2 x3 x4 x5 S = some o → W p l e (rmd 7) s m args below meth c H locs 0 0 (gE below args s D (mtys cI cS) (mcell g cI cS sa) mord g (some (.int o.1)) o.2) (F0 m 59 ls [])) (X : gX D (mcell g cI cS sa) mord g S s H locs) (hl : lv_has ls 6 [(0, .ref (g 99)), (1, .int x1), (2, .int x2), (3, .int x3), (4, .int x4), (5, .int x5)]) (hF : fX12_toGive_b73 N r59 x1 x2 x3 x4 x5 S = some o) : W p l e (rmd 7) s m args below meth c H locs 0 0 (gE below args s D (mtys cI cS) (mcell g cI cS sa) mord g (some (.int o.1)) o.2) (F0 m 73 ls []) := by
  unfold fX12_toGive_b73 at hF
  refine lv_iload_n C.1.1 C.1.2.1 dX12_toGive_73 rfl (lv_at hl 3 rfl) ?_
  refine lv_iconst (v := (-1)) C.1.1 C.1.2.1 dX12_toGive_74 (by decide) ?_
  refine lv_icmp_eq (tgt := 120) C.1.1 C.1.2.1 dX12_toGive_75 (by decide) (fun h_z => ?_) (fun h_z => ?_)
  · rw [if_pos h_z] at hF
    exact bX12_toGive_120 C O X (lv_sub hl [4] rfl) hF
  · rw [if_neg h_z] at hF
    exact bX12_toGive_78 C O K59 X (lv_sub hl [0, 1, 2, 3, 4, 5] rfl) hF
noncomputable def fX12_toGive_b67 (N : Nat) (r59 : Int32 → Int32 → Int32 → Int32 → Int32 → gS → Option (Int32 × gS)) (x1 : Int32) (x2 : Int32) (x3 : Int32) (x4 : Int32) (x5 : Int32) (S : gS) : Option (Int32 × gS) := if x4 = ((-1)) then fX12_toGive_b73 N r59 x1 x2 x3 x4 x5 S else fX12_toGive_b120 N x4 S
theorem bX12_toGive_67 {N : Nat} {r59 : Int32 → Int32 → Int32 → Int32 → Int32 → gS → Option (Int32 × gS)} {x1 : Int32} {x2 : Int32} {x3 : Int32} {x4 : Int32} {x5 : Int32} {S : gS} {H : Heap} {locs : List Loc} {ls : Array Slot} {o : Int32 × gS} (C : gC p s m args meth c cX12_toGive 6 RX12 ((some .int)) D (mtys cI cS) mord g Am) (O : gO (mcell g cI cS sa) mord g) (K59 : ∀ (x1 : Int32) (x2 : Int32) (x3 : Int32) (x4 : Int32) (x5 : Int32) (S : gS) (H : Heap) (locs : List Loc) (ls : Array Slot), gX D (mcell g cI cS sa) mord g S s H locs → lv_has ls 6 [(0, .ref (g 99)), (1, .int x1), (2, .int x2), (3, .int x3), (4, .int x4), (5, .int x5)] → r59 x1 x2 x3 x4 x5 S = some o → W p l e (rmd 7) s m args below meth c H locs 0 0 (gE below args s D (mtys cI cS) (mcell g cI cS sa) mord g (some (.int o.1)) o.2) (F0 m 59 ls [])) (X : gX D (mcell g cI cS sa) mord g S s H locs) (hl : lv_has ls 6 [(0, .ref (g 99)), (1, .int x1), (2, .int x2), (3, .int x3), (4, .int x4), (5, .int x5)]) (hF : fX12_toGive_b67 N r59 x1 x2 x3 x4 x5 S = some o) : W p l e (rmd 7) s m args below meth c H locs 0 0 (gE below args s D (mtys cI cS) (mcell g cI cS sa) mord g (some (.int o.1)) o.2) (F0 m 67 ls []) := by
  unfold fX12_toGive_b67 at hF
  refine lv_iload C.1.1 C.1.2.1 dX12_toGive_67 (lv_at hl 4 rfl) ?_
  refine lv_iconst (v := (-1)) C.1.1 C.1.2.1 dX12_toGive_69 (by decide) ?_
  refine lv_icmp_ne (tgt := 120) C.1.1 C.1.2.1 dX12_toGive_70 (by decide) (fun h_z => ?_) (fun h_z => ?_)
  · rw [if_neg h_z] at hF
    exact bX12_toGive_120 C O X (lv_sub hl [4] rfl) hF
  · rw [if_pos h_z] at hF
    exact bX12_toGive_73 C O K59 X (lv_sub hl [0, 1, 2, 3, 4, 5] rfl) hF
noncomputable def fX12_toGive_b59 (N : Nat) (r59 : Int32 → Int32 → Int32 → Int32 → Int32 → gS → Option (Int32 × gS)) (x1 : Int32) (x2 : Int32) (x3 : Int32) (x4 : Int32) (x5 : Int32) (S : gS) : Option (Int32 × gS) := if 999 < x5 then fX12_toGive_b120 N x4 S else fX12_toGive_b67 N r59 x1 x2 x3 x4 x5 S
theorem bX12_toGive_59 {N : Nat} {r59 : Int32 → Int32 → Int32 → Int32 → Int32 → gS → Option (Int32 × gS)} {x1 : Int32} {x2 : Int32} {x3 : Int32} {x4 : Int32} {x5 : Int32} {S : gS} {H : Heap} {locs : List Loc} {ls : Array Slot} {o : Int32 × gS} (C : gC p s m args meth c cX12_toGive 6 RX12 ((some .int)) D (mtys cI cS) mord g Am) (O : gO (mcell g cI cS sa) mord g) (K59 : ∀ (x1 : Int32) (x2 : Int32) (x3 : Int32) (x4 : Int32) (x5 : Int32) (S : gS) (H : Heap) (locs : List Loc) (ls : Array Slot), gX D (mcell g cI cS sa) mord g S s H locs → lv_has ls 6 [(0, .ref (g 99)), (1, .int x1), (2, .int x2), (3, .int x3), (4, .int x4), (5, .int x5)] → r59 x1 x2 x3 x4 x5 S = some o → W p l e (rmd 7) s m args below meth c H locs 0 0 (gE below args s D (mtys cI cS) (mcell g cI cS sa) mord g (some (.int o.1)) o.2) (F0 m 59 ls [])) (X : gX D (mcell g cI cS sa) mord g S s H locs) (hl : lv_has ls 6 [(0, .ref (g 99)), (1, .int x1), (2, .int x2), (3, .int x3), (4, .int x4), (5, .int x5)]) (hF : fX12_toGive_b59 N r59 x1 x2 x3 x4 x5 S = some o) : W p l e (rmd 7) s m args below meth c H locs 0 0 (gE below args s D (mtys cI cS) (mcell g cI cS sa) mord g (some (.int o.1)) o.2) (F0 m 59 ls []) := by
  unfold fX12_toGive_b59 at hF
  refine lv_iload C.1.1 C.1.2.1 dX12_toGive_59 (lv_at hl 5 rfl) ?_
  refine lv_sipush (v := 999) C.1.1 C.1.2.1 dX12_toGive_61 (by decide) ?_
  refine lv_icmp_gt (tgt := 120) C.1.1 C.1.2.1 dX12_toGive_64 (by decide) (fun h_z => ?_) (fun h_z => ?_)
  · rw [if_pos h_z] at hF
    exact bX12_toGive_120 C O X (lv_sub hl [4] rfl) hF
  · rw [if_neg h_z] at hF
    exact bX12_toGive_67 C O K59 X (lv_sub hl [0, 1, 2, 3, 4, 5] rfl) hF
noncomputable def fX12_toGive_h59 (N : Nat) : Nat → Int32 → Int32 → Int32 → Int32 → Int32 → gS → Option (Int32 × gS)
  | 0, _, _, _, _, _, _ => none
  | n + 1, x1, x2, x3, x4, x5, S => fX12_toGive_b59 N (fX12_toGive_h59 N n) x1 x2 x3 x4 x5 S
theorem hX12_toGive_59 {N : Nat} {o : Int32 × gS} (C : gC p s m args meth c cX12_toGive 6 RX12 ((some .int)) D (mtys cI cS) mord g Am) (O : gO (mcell g cI cS sa) mord g) : ∀ (n : Nat) (x1 : Int32) (x2 : Int32) (x3 : Int32) (x4 : Int32) (x5 : Int32) (S : gS) (H : Heap) (locs : List Loc) (ls : Array Slot), gX D (mcell g cI cS sa) mord g S s H locs → lv_has ls 6 [(0, .ref (g 99)), (1, .int x1), (2, .int x2), (3, .int x3), (4, .int x4), (5, .int x5)] → fX12_toGive_h59 N n x1 x2 x3 x4 x5 S = some o → W p l e (rmd 7) s m args below meth c H locs 0 0 (gE below args s D (mtys cI cS) (mcell g cI cS sa) mord g (some (.int o.1)) o.2) (F0 m 59 ls []) := by
  intro n
  induction n with
  | zero =>
    intro x1 x2 x3 x4 x5 S H locs ls X hl hF
    exact absurd (show (none : Option (Int32 × gS)) = some o from hF) (by simp)
  | succ n ih =>
    intro x1 x2 x3 x4 x5 S H locs ls X hl hF
    have hF : fX12_toGive_b59 N (fX12_toGive_h59 N n) x1 x2 x3 x4 x5 S = some o := hF
    exact bX12_toGive_59 C O ih X hl hF
noncomputable def fX12_toGive_b37 (N : Nat) (x1 : Int32) (x2 : Int32) (S : gS) : Option (Int32 × gS) := chk (inb x1 (6)) (bnd (fX12_pack N 46 0 S) fun q1 => (fX12_toGive_h59 N N x1 x2 (S 35 (Int32.toNatClampNeg x1)) ((-1)) 0 q1.2))
theorem bX12_toGive_37 {N : Nat} {x1 : Int32} {x2 : Int32} {S : gS} {H : Heap} {locs : List Loc} {ls : Array Slot} {o : Int32 × gS} (C : gC p s m args meth c cX12_toGive 6 RX12 ((some .int)) D (mtys cI cS) mord g Am) (O : gO (mcell g cI cS sa) mord g) (X : gX D (mcell g cI cS sa) mord g S s H locs) (hl : lv_has ls 6 [(0, .ref (g 99)), (1, .int x1), (2, .int x2)]) (hF : fX12_toGive_b37 N x1 x2 S = some o) : W p l e (rmd 7) s m args below meth c H locs 0 0 (gE below args s D (mtys cI cS) (mcell g cI cS sa) mord g (some (.int o.1)) o.2) (F0 m 37 ls []) := by
  unfold fX12_toGive_b37 at hF
  refine lv_aload_n C.1.1 C.1.2.1 dX12_toGive_37 rfl (lv_at hl 0 rfl) ?_
  refine m_g35 C X dX12_toGive_38 ?_
  refine lv_iload_n C.1.1 C.1.2.1 dX12_toGive_41 rfl (lv_at hl 1 rfl) ?_
  obtain ⟨h_1, hF⟩ := chk_some hF
  refine m_r35 C X  (inb_vp h_1) rfl dX12_toGive_42 ?_
  refine lv_istore_n (lv' := [(3, .int (S 35 (Int32.toNatClampNeg x1))), (0, .ref (g 99)), (1, .int x1), (2, .int x2)]) C.1.1 C.1.2.1 dX12_toGive_43 rfl hl (by decide) rfl (fun ls hl => ?_)
  refine lv_iconst (v := (-1)) C.1.1 C.1.2.1 dX12_toGive_44 (by decide) ?_
  refine lv_istore (lv' := [(4, .int ((-1))), (3, .int (S 35 (Int32.toNatClampNeg x1))), (0, .ref (g 99)), (1, .int x1), (2, .int x2)]) C.1.1 C.1.2.1 dX12_toGive_45 hl (by decide) rfl (fun ls hl => ?_)
  refine lv_aload_n C.1.1 C.1.2.1 dX12_toGive_47 rfl (lv_at hl 2 rfl) ?_
  refine lv_aload_n C.1.1 C.1.2.1 dX12_toGive_48 rfl (lv_at hl 2 rfl) ?_
  refine m_g46 C X dX12_toGive_49 ?_
  refine lv_iconst (v := 0) C.1.1 C.1.2.1 dX12_toGive_52 (by decide) ?_
  obtain ⟨q1, hq1, hF⟩ := bnd_some hF
  refine m_callV C X vX12_pack rfl (kX12_pack O C.2.2.2.2.1 N 46 0 (rfl : mI 46 = true) S q1 hq1) (Nat.le_of_ble_eq_true rfl) (Nat.le_of_ble_eq_true rfl) (Nat.le_of_ble_eq_true rfl) (Nat.le_of_ble_eq_true rfl) rfl hl.1 rfl (Nat.le_of_ble_eq_true rfl) dX12_toGive_53 (fun H locs X => ?_)
  refine lv_iconst (v := 0) C.1.1 C.1.2.1 dX12_toGive_56 (by decide) ?_
  refine lv_istore (lv' := [(5, .int 0), (4, .int ((-1))), (3, .int (S 35 (Int32.toNatClampNeg x1))), (0, .ref (g 99)), (1, .int x1), (2, .int x2)]) C.1.1 C.1.2.1 dX12_toGive_57 hl (by decide) rfl (fun ls hl => ?_)
  exact hX12_toGive_59 C O N _ _ _ _ _ _ _ _ _ X (lv_sub hl [3, 4, 5, 2, 1, 0] rfl) hF
noncomputable def fX12_toGive_b31 (N : Nat) (S : gS) : Option (Int32 × gS) := bnd (fX12_fail N 2 S) fun q1 => (some (q1.1, q1.2))
theorem bX12_toGive_31 {N : Nat} {S : gS} {H : Heap} {locs : List Loc} {ls : Array Slot} {o : Int32 × gS} (C : gC p s m args meth c cX12_toGive 6 RX12 ((some .int)) D (mtys cI cS) mord g Am) (O : gO (mcell g cI cS sa) mord g) (X : gX D (mcell g cI cS sa) mord g S s H locs) (hl : lv_has ls 6 [(0, .ref (g 99))]) (hF : fX12_toGive_b31 N S = some o) : W p l e (rmd 7) s m args below meth c H locs 0 0 (gE below args s D (mtys cI cS) (mcell g cI cS sa) mord g (some (.int o.1)) o.2) (F0 m 31 ls []) := by
  unfold fX12_toGive_b31 at hF
  refine lv_aload_n C.1.1 C.1.2.1 dX12_toGive_31 rfl (lv_at hl 0 rfl) ?_
  refine lv_iconst (v := 2) C.1.1 C.1.2.1 dX12_toGive_32 (by decide) ?_
  obtain ⟨q1, hq1, hF⟩ := bnd_some hF
  refine m_callVi C X vX12_fail rfl (kX12_fail O C.2.2.2.2.1 N 2  S q1 hq1) (Nat.le_of_ble_eq_true rfl) (Nat.le_of_ble_eq_true rfl) (Nat.le_of_ble_eq_true rfl) (Nat.le_of_ble_eq_true rfl) rfl hl.1 rfl (Nat.le_of_ble_eq_true rfl) dX12_toGive_33 (fun H locs X => ?_)
  cases hF
  exact g_iret C X dX12_toGive_36
noncomputable def fX12_toGive_b19 (N : Nat) (x1 : Int32) (x2 : Int32) (S : gS) : Option (Int32 × gS) := bnd (fX12_isIn N (Int32.toInt64 x2) 1 60 S) fun q1 => (if q1.1 = 0 then fX12_toGive_b31 N q1.2 else fX12_toGive_b37 N x1 x2 q1.2)
theorem bX12_toGive_19 {N : Nat} {x1 : Int32} {x2 : Int32} {S : gS} {H : Heap} {locs : List Loc} {ls : Array Slot} {o : Int32 × gS} (C : gC p s m args meth c cX12_toGive 6 RX12 ((some .int)) D (mtys cI cS) mord g Am) (O : gO (mcell g cI cS sa) mord g) (X : gX D (mcell g cI cS sa) mord g S s H locs) (hl : lv_has ls 6 [(0, .ref (g 99)), (1, .int x1), (2, .int x2)]) (hF : fX12_toGive_b19 N x1 x2 S = some o) : W p l e (rmd 7) s m args below meth c H locs 0 0 (gE below args s D (mtys cI cS) (mcell g cI cS sa) mord g (some (.int o.1)) o.2) (F0 m 19 ls []) := by
  unfold fX12_toGive_b19 at hF
  refine lv_iload_n C.1.1 C.1.2.1 dX12_toGive_19 rfl (lv_at hl 2 rfl) ?_
  refine lv_i2l (v := Int32.toInt64 x2) C.1.1 C.1.2.1 dX12_toGive_20 rfl ?_
  refine lv_lconst (v := 1) C.1.1 C.1.2.1 dX12_toGive_21 (by decide) ?_
  refine lv_ldc2 C.1.1 C.1.2.1 C.1.2.2.2.1 (C.1.2.2.2.2 _ mKL432) dX12_toGive_22 ?_
  obtain ⟨q1, hq1, hF⟩ := bnd_some hF
  refine g_callSi C X vX12_isIn (kX12_isIn O C.2.2.2.2.1 N (Int32.toInt64 x2) 1 60  S q1 hq1) (Nat.le_of_ble_eq_true rfl) (Nat.le_of_ble_eq_true rfl) (Nat.le_of_ble_eq_true rfl) (Nat.le_of_ble_eq_true rfl) rfl hl.1 rfl (Nat.le_of_ble_eq_true rfl) dX12_toGive_25 (fun H locs X => ?_)
  refine lv_if_ne (tgt := 37) C.1.1 C.1.2.1 dX12_toGive_28 (by decide) (fun h_z => ?_) (fun h_z => ?_)
  · rw [if_neg h_z] at hF
    exact bX12_toGive_37 C O X (lv_sub hl [0, 1, 2] rfl) hF
  · rw [if_pos h_z] at hF
    exact bX12_toGive_31 C O X (lv_sub hl [0] rfl) hF
noncomputable def fX12_toGive_b13 (N : Nat) (S : gS) : Option (Int32 × gS) := bnd (fX12_fail N 1 S) fun q1 => (some (q1.1, q1.2))
theorem bX12_toGive_13 {N : Nat} {S : gS} {H : Heap} {locs : List Loc} {ls : Array Slot} {o : Int32 × gS} (C : gC p s m args meth c cX12_toGive 6 RX12 ((some .int)) D (mtys cI cS) mord g Am) (O : gO (mcell g cI cS sa) mord g) (X : gX D (mcell g cI cS sa) mord g S s H locs) (hl : lv_has ls 6 [(0, .ref (g 99))]) (hF : fX12_toGive_b13 N S = some o) : W p l e (rmd 7) s m args below meth c H locs 0 0 (gE below args s D (mtys cI cS) (mcell g cI cS sa) mord g (some (.int o.1)) o.2) (F0 m 13 ls []) := by
  unfold fX12_toGive_b13 at hF
  refine lv_aload_n C.1.1 C.1.2.1 dX12_toGive_13 rfl (lv_at hl 0 rfl) ?_
  refine lv_iconst (v := 1) C.1.1 C.1.2.1 dX12_toGive_14 (by decide) ?_
  obtain ⟨q1, hq1, hF⟩ := bnd_some hF
  refine m_callVi C X vX12_fail rfl (kX12_fail O C.2.2.2.2.1 N 1  S q1 hq1) (Nat.le_of_ble_eq_true rfl) (Nat.le_of_ble_eq_true rfl) (Nat.le_of_ble_eq_true rfl) (Nat.le_of_ble_eq_true rfl) rfl hl.1 rfl (Nat.le_of_ble_eq_true rfl) dX12_toGive_15 (fun H locs X => ?_)
  cases hF
  exact g_iret C X dX12_toGive_18
noncomputable def fX12_toGive_b0 (N : Nat) (x1 : Int32) (x2 : Int32) (S : gS) : Option (Int32 × gS) := lt (sU S 99 4 0) fun S1 => (bnd (fX12_isGuild N x1 S1) fun q1 => (if q1.1 = 0 then fX12_toGive_b13 N q1.2 else fX12_toGive_b19 N x1 x2 q1.2))
theorem bX12_toGive_0 {N : Nat} {x1 : Int32} {x2 : Int32} {S : gS} {H : Heap} {locs : List Loc} {ls : Array Slot} {o : Int32 × gS} (C : gC p s m args meth c cX12_toGive 6 RX12 ((some .int)) D (mtys cI cS) mord g Am) (O : gO (mcell g cI cS sa) mord g) (X : gX D (mcell g cI cS sa) mord g S s H locs) (hl : lv_has ls 6 [(0, .ref (g 99)), (1, .int x1), (2, .int x2)]) (hF : fX12_toGive_b0 N x1 x2 S = some o) : W p l e (rmd 7) s m args below meth c H locs 0 0 (gE below args s D (mtys cI cS) (mcell g cI cS sa) mord g (some (.int o.1)) o.2) (F0 m 0 ls []) := by
  unfold fX12_toGive_b0 at hF
  refine lv_aload_n C.1.1 C.1.2.1 dX12_toGive_0 rfl (lv_at hl 0 rfl) ?_
  refine lv_iconst (v := 0) C.1.1 C.1.2.1 dX12_toGive_1 (by decide) ?_
  obtain ⟨S1, eS1, hF⟩ := lt_some hF
  refine m_p4 C O X eS1 dX12_toGive_2 (fun H locs X => ?_)
  refine lv_aload_n C.1.1 C.1.2.1 dX12_toGive_5 rfl (lv_at hl 0 rfl) ?_
  refine lv_iload_n C.1.1 C.1.2.1 dX12_toGive_6 rfl (lv_at hl 1 rfl) ?_
  obtain ⟨q1, hq1, hF⟩ := bnd_some hF
  refine m_callVi C X vX12_isGuild rfl (kX12_isGuild O C.2.2.2.2.1 N x1  S1 q1 hq1) (Nat.le_of_ble_eq_true rfl) (Nat.le_of_ble_eq_true rfl) (Nat.le_of_ble_eq_true rfl) (Nat.le_of_ble_eq_true rfl) rfl hl.1 rfl (Nat.le_of_ble_eq_true rfl) dX12_toGive_7 (fun H locs X => ?_)
  refine lv_if_ne (tgt := 19) C.1.1 C.1.2.1 dX12_toGive_10 (by decide) (fun h_z => ?_) (fun h_z => ?_)
  · rw [if_neg h_z] at hF
    exact bX12_toGive_19 C O X (lv_sub hl [0, 1, 2] rfl) hF
  · rw [if_pos h_z] at hF
    exact bX12_toGive_13 C O X (lv_sub hl [0] rfl) hF
noncomputable def fX12_toGive (N : Nat) (x1 : Int32) (x2 : Int32) (S : gS) : Option (Int32 × gS) := fX12_toGive_b0 N x1 x2 S
theorem kX12_toGive {l : Launch} {D : va_G} {g : Nat → Nat} {cI cS : ClassId} {sa : Nat → Nat → Option Nat} {Am : (Nat → Prop) → State → Heap → Prop} (O : gO (mcell g cI cS sa) mord g) (P : gAm Am) (N : Nat) (x1 : Int32) (x2 : Int32) (S : gS) (o : Int32 × gS) (hF : fX12_toGive N x1 x2 S = some o) : gM l yX12_toGive cX12_toGive 6 ((some .int)) 7 D (mtys cI cS) (mcell g cI cS sa) mord g Am [.ref (g 99), .int x1, .int x2] S (some (.int o.1)) o.2 :=
  gM_of O P (by decide) (Nat.le_of_ble_eq_true rfl) (fun p e s m args below meth c ls C X hl => bX12_toGive_0 C O X (lv_sub hl [0, 1, 2] rfl) hF)
-- confessing
noncomputable def fX12_confessing_b47 (N : Nat) (x1 : Int32) (x2 : Int32) (S : gS) : Option (Int32 × gS) := bnd (fX12_pack N 46 0 S) fun q1 => (bnd (fX12_goOn N x2 q1.2) fun q2 => (chk (inb x1 (6)) (bnd (fX12_unpack N 46 0 q2.2) fun q3 => (bnd (fX12_doConfess N x1 q3.2) fun q4 => (bnd (fX12_goOn N x2 q4.2) fun q5 => (chk (inb x1 (6)) (bnd (fX12_unpack N 46 0 q5.2) fun q6 => (some (((q2.2 32 (Int32.toNatClampNeg x1)) - (q5.2 32 (Int32.toNatClampNeg x1)) : Int32), q6.2)))))))))
theorem bX12_confessing_47 {N : Nat} {x1 : Int32} {x2 : Int32} {S : gS} {H : Heap} {locs : List Loc} {ls : Array Slot} {o : Int32 × gS} (C : gC p s m args meth c cX12_confessing 5 RX12 ((some .int)) D (mtys cI cS) mord g Am) (O : gO (mcell g cI cS sa) mord g) (X : gX D (mcell g cI cS sa) mord g S s H locs) (hl : lv_has ls 5 [(0, .ref (g 99)), (1, .int x1), (2, .int x2)]) (hF : fX12_confessing_b47 N x1 x2 S = some o) : W p l e (rmd 7) s m args below meth c H locs 0 0 (gE below args s D (mtys cI cS) (mcell g cI cS sa) mord g (some (.int o.1)) o.2) (F0 m 47 ls []) := by
  unfold fX12_confessing_b47 at hF
  refine lv_aload_n C.1.1 C.1.2.1 dX12_confessing_47 rfl (lv_at hl 0 rfl) ?_
  refine lv_aload_n C.1.1 C.1.2.1 dX12_confessing_48 rfl (lv_at hl 0 rfl) ?_
  refine m_g46 C X dX12_confessing_49 ?_
  refine lv_iconst (v := 0) C.1.1 C.1.2.1 dX12_confessing_52 (by decide) ?_
  obtain ⟨q1, hq1, hF⟩ := bnd_some hF
  refine m_callV C X vX12_pack rfl (kX12_pack O C.2.2.2.2.1 N 46 0 (rfl : mI 46 = true) S q1 hq1) (Nat.le_of_ble_eq_true rfl) (Nat.le_of_ble_eq_true rfl) (Nat.le_of_ble_eq_true rfl) (Nat.le_of_ble_eq_true rfl) rfl hl.1 rfl (Nat.le_of_ble_eq_true rfl) dX12_confessing_53 (fun H locs X => ?_)
  refine lv_aload_n C.1.1 C.1.2.1 dX12_confessing_56 rfl (lv_at hl 0 rfl) ?_
  refine lv_iload_n C.1.1 C.1.2.1 dX12_confessing_57 rfl (lv_at hl 2 rfl) ?_
  obtain ⟨q2, hq2, hF⟩ := bnd_some hF
  refine m_callV C X vX12_goOn rfl (kX12_goOn O C.2.2.2.2.1 N x2  q1.2 q2 hq2) (Nat.le_of_ble_eq_true rfl) (Nat.le_of_ble_eq_true rfl) (Nat.le_of_ble_eq_true rfl) (Nat.le_of_ble_eq_true rfl) rfl hl.1 rfl (Nat.le_of_ble_eq_true rfl) dX12_confessing_58 (fun H locs X => ?_)
  refine lv_aload_n C.1.1 C.1.2.1 dX12_confessing_61 rfl (lv_at hl 0 rfl) ?_
  refine m_g32 C X dX12_confessing_62 ?_
  refine lv_iload_n C.1.1 C.1.2.1 dX12_confessing_65 rfl (lv_at hl 1 rfl) ?_
  obtain ⟨h_1, hF⟩ := chk_some hF
  refine m_r32 C X  (inb_vp h_1) rfl dX12_confessing_66 ?_
  refine lv_istore_n (lv' := [(3, .int (q2.2 32 (Int32.toNatClampNeg x1))), (0, .ref (g 99)), (1, .int x1), (2, .int x2)]) C.1.1 C.1.2.1 dX12_confessing_67 rfl hl (by decide) rfl (fun ls hl => ?_)
  refine lv_aload_n C.1.1 C.1.2.1 dX12_confessing_68 rfl (lv_at hl 1 rfl) ?_
  refine lv_aload_n C.1.1 C.1.2.1 dX12_confessing_69 rfl (lv_at hl 1 rfl) ?_
  refine m_g46 C X dX12_confessing_70 ?_
  refine lv_iconst (v := 0) C.1.1 C.1.2.1 dX12_confessing_73 (by decide) ?_
  obtain ⟨q3, hq3, hF⟩ := bnd_some hF
  refine m_callV C X vX12_unpack rfl (kX12_unpack O C.2.2.2.2.1 N 46 0 (rfl : mI 46 = true) q2.2 q3 hq3) (Nat.le_of_ble_eq_true rfl) (Nat.le_of_ble_eq_true rfl) (Nat.le_of_ble_eq_true rfl) (Nat.le_of_ble_eq_true rfl) rfl hl.1 rfl (Nat.le_of_ble_eq_true rfl) dX12_confessing_74 (fun H locs X => ?_)
  refine lv_aload_n C.1.1 C.1.2.1 dX12_confessing_77 rfl (lv_at hl 1 rfl) ?_
  refine lv_iload_n C.1.1 C.1.2.1 dX12_confessing_78 rfl (lv_at hl 2 rfl) ?_
  obtain ⟨q4, hq4, hF⟩ := bnd_some hF
  refine m_callV C X vX12_doConfess rfl (kX12_doConfess O C.2.2.2.2.1 N x1  q3.2 q4 hq4) (Nat.le_of_ble_eq_true rfl) (Nat.le_of_ble_eq_true rfl) (Nat.le_of_ble_eq_true rfl) (Nat.le_of_ble_eq_true rfl) rfl hl.1 rfl (Nat.le_of_ble_eq_true rfl) dX12_confessing_79 (fun H locs X => ?_)
  refine lv_aload_n C.1.1 C.1.2.1 dX12_confessing_82 rfl (lv_at hl 1 rfl) ?_
  refine lv_iload_n C.1.1 C.1.2.1 dX12_confessing_83 rfl (lv_at hl 3 rfl) ?_
  obtain ⟨q5, hq5, hF⟩ := bnd_some hF
  refine m_callV C X vX12_goOn rfl (kX12_goOn O C.2.2.2.2.1 N x2  q4.2 q5 hq5) (Nat.le_of_ble_eq_true rfl) (Nat.le_of_ble_eq_true rfl) (Nat.le_of_ble_eq_true rfl) (Nat.le_of_ble_eq_true rfl) rfl hl.1 rfl (Nat.le_of_ble_eq_true rfl) dX12_confessing_84 (fun H locs X => ?_)
  refine lv_aload_n C.1.1 C.1.2.1 dX12_confessing_87 rfl (lv_at hl 1 rfl) ?_
  refine m_g32 C X dX12_confessing_88 ?_
  refine lv_iload_n C.1.1 C.1.2.1 dX12_confessing_91 rfl (lv_at hl 2 rfl) ?_
  obtain ⟨h_2, hF⟩ := chk_some hF
  refine m_r32 C X  (inb_vp h_2) rfl dX12_confessing_92 ?_
  refine lv_istore (lv' := [(4, .int (q5.2 32 (Int32.toNatClampNeg x1))), (3, .int (q2.2 32 (Int32.toNatClampNeg x1))), (0, .ref (g 99)), (1, .int x1), (2, .int x2)]) C.1.1 C.1.2.1 dX12_confessing_93 hl (by decide) rfl (fun ls hl => ?_)
  refine lv_aload_n C.1.1 C.1.2.1 dX12_confessing_95 rfl (lv_at hl 2 rfl) ?_
  refine lv_aload_n C.1.1 C.1.2.1 dX12_confessing_96 rfl (lv_at hl 2 rfl) ?_
  refine m_g46 C X dX12_confessing_97 ?_
  refine lv_iconst (v := 0) C.1.1 C.1.2.1 dX12_confessing_100 (by decide) ?_
  obtain ⟨q6, hq6, hF⟩ := bnd_some hF
  refine m_callV C X vX12_unpack rfl (kX12_unpack O C.2.2.2.2.1 N 46 0 (rfl : mI 46 = true) q5.2 q6 hq6) (Nat.le_of_ble_eq_true rfl) (Nat.le_of_ble_eq_true rfl) (Nat.le_of_ble_eq_true rfl) (Nat.le_of_ble_eq_true rfl) rfl hl.1 rfl (Nat.le_of_ble_eq_true rfl) dX12_confessing_101 (fun H locs X => ?_)
  refine lv_iload_n C.1.1 C.1.2.1 dX12_confessing_104 rfl (lv_at hl 1 rfl) ?_
  refine lv_iload C.1.1 C.1.2.1 dX12_confessing_105 (lv_at hl 0 rfl) ?_
  refine lv_isub C.1.1 C.1.2.1 dX12_confessing_107 ?_
  cases hF
  exact g_iret C X dX12_confessing_108
noncomputable def fX12_confessing_b45 (N : Nat) (S : gS) : Option (Int32 × gS) := some (0, S)
theorem bX12_confessing_45 {N : Nat} {S : gS} {H : Heap} {locs : List Loc} {ls : Array Slot} {o : Int32 × gS} (C : gC p s m args meth c cX12_confessing 5 RX12 ((some .int)) D (mtys cI cS) mord g Am) (O : gO (mcell g cI cS sa) mord g) (X : gX D (mcell g cI cS sa) mord g S s H locs) (hl : lv_has ls 5 []) (hF : fX12_confessing_b45 N S = some o) : W p l e (rmd 7) s m args below meth c H locs 0 0 (gE below args s D (mtys cI cS) (mcell g cI cS sa) mord g (some (.int o.1)) o.2) (F0 m 45 ls []) := by
  unfold fX12_confessing_b45 at hF
  refine lv_iconst (v := 0) C.1.1 C.1.2.1 dX12_confessing_45 (by decide) ?_
  cases hF
  exact g_iret C X dX12_confessing_46
noncomputable def fX12_confessing_b37 (N : Nat) (x1 : Int32) (x2 : Int32) (S : gS) : Option (Int32 × gS) := bnd (fX12_canConfess N x1 S) fun q1 => (if q1.1 = 0 then fX12_confessing_b45 N q1.2 else fX12_confessing_b47 N x1 x2 q1.2)
theorem bX12_confessing_37 {N : Nat} {x1 : Int32} {x2 : Int32} {S : gS} {H : Heap} {locs : List Loc} {ls : Array Slot} {o : Int32 × gS} (C : gC p s m args meth c cX12_confessing 5 RX12 ((some .int)) D (mtys cI cS) mord g Am) (O : gO (mcell g cI cS sa) mord g) (X : gX D (mcell g cI cS sa) mord g S s H locs) (hl : lv_has ls 5 [(0, .ref (g 99)), (1, .int x1), (2, .int x2)]) (hF : fX12_confessing_b37 N x1 x2 S = some o) : W p l e (rmd 7) s m args below meth c H locs 0 0 (gE below args s D (mtys cI cS) (mcell g cI cS sa) mord g (some (.int o.1)) o.2) (F0 m 37 ls []) := by
  unfold fX12_confessing_b37 at hF
  refine lv_aload_n C.1.1 C.1.2.1 dX12_confessing_37 rfl (lv_at hl 0 rfl) ?_
  refine lv_iload_n C.1.1 C.1.2.1 dX12_confessing_38 rfl (lv_at hl 1 rfl) ?_
  obtain ⟨q1, hq1, hF⟩ := bnd_some hF
  refine m_callVi C X vX12_canConfess rfl (kX12_canConfess O C.2.2.2.2.1 N x1  S q1 hq1) (Nat.le_of_ble_eq_true rfl) (Nat.le_of_ble_eq_true rfl) (Nat.le_of_ble_eq_true rfl) (Nat.le_of_ble_eq_true rfl) rfl hl.1 rfl (Nat.le_of_ble_eq_true rfl) dX12_confessing_39 (fun H locs X => ?_)
  refine lv_if_ne (tgt := 47) C.1.1 C.1.2.1 dX12_confessing_42 (by decide) (fun h_z => ?_) (fun h_z => ?_)
  · rw [if_neg h_z] at hF
    exact bX12_confessing_47 C O X (lv_sub hl [0, 1, 2] rfl) hF
  · rw [if_pos h_z] at hF
    exact bX12_confessing_45 C O X (lv_sub hl [] rfl) hF
noncomputable def fX12_confessing_b31 (N : Nat) (S : gS) : Option (Int32 × gS) := bnd (fX12_fail N 2 S) fun q1 => (some (q1.1, q1.2))
theorem bX12_confessing_31 {N : Nat} {S : gS} {H : Heap} {locs : List Loc} {ls : Array Slot} {o : Int32 × gS} (C : gC p s m args meth c cX12_confessing 5 RX12 ((some .int)) D (mtys cI cS) mord g Am) (O : gO (mcell g cI cS sa) mord g) (X : gX D (mcell g cI cS sa) mord g S s H locs) (hl : lv_has ls 5 [(0, .ref (g 99))]) (hF : fX12_confessing_b31 N S = some o) : W p l e (rmd 7) s m args below meth c H locs 0 0 (gE below args s D (mtys cI cS) (mcell g cI cS sa) mord g (some (.int o.1)) o.2) (F0 m 31 ls []) := by
  unfold fX12_confessing_b31 at hF
  refine lv_aload_n C.1.1 C.1.2.1 dX12_confessing_31 rfl (lv_at hl 0 rfl) ?_
  refine lv_iconst (v := 2) C.1.1 C.1.2.1 dX12_confessing_32 (by decide) ?_
  obtain ⟨q1, hq1, hF⟩ := bnd_some hF
  refine m_callVi C X vX12_fail rfl (kX12_fail O C.2.2.2.2.1 N 2  S q1 hq1) (Nat.le_of_ble_eq_true rfl) (Nat.le_of_ble_eq_true rfl) (Nat.le_of_ble_eq_true rfl) (Nat.le_of_ble_eq_true rfl) rfl hl.1 rfl (Nat.le_of_ble_eq_true rfl) dX12_confessing_33 (fun H locs X => ?_)
  cases hF
  exact g_iret C X dX12_confessing_36
noncomputable def fX12_confessing_b19 (N : Nat) (x1 : Int32) (x2 : Int32) (S : gS) : Option (Int32 × gS) := bnd (fX12_isIn N (Int32.toInt64 x2) 0 60 S) fun q1 => (if q1.1 = 0 then fX12_confessing_b31 N q1.2 else fX12_confessing_b37 N x1 x2 q1.2)
theorem bX12_confessing_19 {N : Nat} {x1 : Int32} {x2 : Int32} {S : gS} {H : Heap} {locs : List Loc} {ls : Array Slot} {o : Int32 × gS} (C : gC p s m args meth c cX12_confessing 5 RX12 ((some .int)) D (mtys cI cS) mord g Am) (O : gO (mcell g cI cS sa) mord g) (X : gX D (mcell g cI cS sa) mord g S s H locs) (hl : lv_has ls 5 [(0, .ref (g 99)), (1, .int x1), (2, .int x2)]) (hF : fX12_confessing_b19 N x1 x2 S = some o) : W p l e (rmd 7) s m args below meth c H locs 0 0 (gE below args s D (mtys cI cS) (mcell g cI cS sa) mord g (some (.int o.1)) o.2) (F0 m 19 ls []) := by
  unfold fX12_confessing_b19 at hF
  refine lv_iload_n C.1.1 C.1.2.1 dX12_confessing_19 rfl (lv_at hl 2 rfl) ?_
  refine lv_i2l (v := Int32.toInt64 x2) C.1.1 C.1.2.1 dX12_confessing_20 rfl ?_
  refine lv_lconst (v := 0) C.1.1 C.1.2.1 dX12_confessing_21 (by decide) ?_
  refine lv_ldc2 C.1.1 C.1.2.1 C.1.2.2.2.1 (C.1.2.2.2.2 _ mKL432) dX12_confessing_22 ?_
  obtain ⟨q1, hq1, hF⟩ := bnd_some hF
  refine g_callSi C X vX12_isIn (kX12_isIn O C.2.2.2.2.1 N (Int32.toInt64 x2) 0 60  S q1 hq1) (Nat.le_of_ble_eq_true rfl) (Nat.le_of_ble_eq_true rfl) (Nat.le_of_ble_eq_true rfl) (Nat.le_of_ble_eq_true rfl) rfl hl.1 rfl (Nat.le_of_ble_eq_true rfl) dX12_confessing_25 (fun H locs X => ?_)
  refine lv_if_ne (tgt := 37) C.1.1 C.1.2.1 dX12_confessing_28 (by decide) (fun h_z => ?_) (fun h_z => ?_)
  · rw [if_neg h_z] at hF
    exact bX12_confessing_37 C O X (lv_sub hl [0, 1, 2] rfl) hF
  · rw [if_pos h_z] at hF
    exact bX12_confessing_31 C O X (lv_sub hl [0] rfl) hF
noncomputable def fX12_confessing_b13 (N : Nat) (S : gS) : Option (Int32 × gS) := bnd (fX12_fail N 1 S) fun q1 => (some (q1.1, q1.2))
theorem bX12_confessing_13 {N : Nat} {S : gS} {H : Heap} {locs : List Loc} {ls : Array Slot} {o : Int32 × gS} (C : gC p s m args meth c cX12_confessing 5 RX12 ((some .int)) D (mtys cI cS) mord g Am) (O : gO (mcell g cI cS sa) mord g) (X : gX D (mcell g cI cS sa) mord g S s H locs) (hl : lv_has ls 5 [(0, .ref (g 99))]) (hF : fX12_confessing_b13 N S = some o) : W p l e (rmd 7) s m args below meth c H locs 0 0 (gE below args s D (mtys cI cS) (mcell g cI cS sa) mord g (some (.int o.1)) o.2) (F0 m 13 ls []) := by
  unfold fX12_confessing_b13 at hF
  refine lv_aload_n C.1.1 C.1.2.1 dX12_confessing_13 rfl (lv_at hl 0 rfl) ?_
  refine lv_iconst (v := 1) C.1.1 C.1.2.1 dX12_confessing_14 (by decide) ?_
  obtain ⟨q1, hq1, hF⟩ := bnd_some hF
  refine m_callVi C X vX12_fail rfl (kX12_fail O C.2.2.2.2.1 N 1  S q1 hq1) (Nat.le_of_ble_eq_true rfl) (Nat.le_of_ble_eq_true rfl) (Nat.le_of_ble_eq_true rfl) (Nat.le_of_ble_eq_true rfl) rfl hl.1 rfl (Nat.le_of_ble_eq_true rfl) dX12_confessing_15 (fun H locs X => ?_)
  cases hF
  exact g_iret C X dX12_confessing_18
noncomputable def fX12_confessing_b0 (N : Nat) (x1 : Int32) (x2 : Int32) (S : gS) : Option (Int32 × gS) := lt (sU S 99 4 0) fun S1 => (bnd (fX12_isGuild N x1 S1) fun q1 => (if q1.1 = 0 then fX12_confessing_b13 N q1.2 else fX12_confessing_b19 N x1 x2 q1.2))
theorem bX12_confessing_0 {N : Nat} {x1 : Int32} {x2 : Int32} {S : gS} {H : Heap} {locs : List Loc} {ls : Array Slot} {o : Int32 × gS} (C : gC p s m args meth c cX12_confessing 5 RX12 ((some .int)) D (mtys cI cS) mord g Am) (O : gO (mcell g cI cS sa) mord g) (X : gX D (mcell g cI cS sa) mord g S s H locs) (hl : lv_has ls 5 [(0, .ref (g 99)), (1, .int x1), (2, .int x2)]) (hF : fX12_confessing_b0 N x1 x2 S = some o) : W p l e (rmd 7) s m args below meth c H locs 0 0 (gE below args s D (mtys cI cS) (mcell g cI cS sa) mord g (some (.int o.1)) o.2) (F0 m 0 ls []) := by
  unfold fX12_confessing_b0 at hF
  refine lv_aload_n C.1.1 C.1.2.1 dX12_confessing_0 rfl (lv_at hl 0 rfl) ?_
  refine lv_iconst (v := 0) C.1.1 C.1.2.1 dX12_confessing_1 (by decide) ?_
  obtain ⟨S1, eS1, hF⟩ := lt_some hF
  refine m_p4 C O X eS1 dX12_confessing_2 (fun H locs X => ?_)
  refine lv_aload_n C.1.1 C.1.2.1 dX12_confessing_5 rfl (lv_at hl 0 rfl) ?_
  refine lv_iload_n C.1.1 C.1.2.1 dX12_confessing_6 rfl (lv_at hl 1 rfl) ?_
  obtain ⟨q1, hq1, hF⟩ := bnd_some hF
  refine m_callVi C X vX12_isGuild rfl (kX12_isGuild O C.2.2.2.2.1 N x1  S1 q1 hq1) (Nat.le_of_ble_eq_true rfl) (Nat.le_of_ble_eq_true rfl) (Nat.le_of_ble_eq_true rfl) (Nat.le_of_ble_eq_true rfl) rfl hl.1 rfl (Nat.le_of_ble_eq_true rfl) dX12_confessing_7 (fun H locs X => ?_)
  refine lv_if_ne (tgt := 19) C.1.1 C.1.2.1 dX12_confessing_10 (by decide) (fun h_z => ?_) (fun h_z => ?_)
  · rw [if_neg h_z] at hF
    exact bX12_confessing_19 C O X (lv_sub hl [0, 1, 2] rfl) hF
  · rw [if_pos h_z] at hF
    exact bX12_confessing_13 C O X (lv_sub hl [0] rfl) hF
noncomputable def fX12_confessing (N : Nat) (x1 : Int32) (x2 : Int32) (S : gS) : Option (Int32 × gS) := fX12_confessing_b0 N x1 x2 S
theorem kX12_confessing {l : Launch} {D : va_G} {g : Nat → Nat} {cI cS : ClassId} {sa : Nat → Nat → Option Nat} {Am : (Nat → Prop) → State → Heap → Prop} (O : gO (mcell g cI cS sa) mord g) (P : gAm Am) (N : Nat) (x1 : Int32) (x2 : Int32) (S : gS) (o : Int32 × gS) (hF : fX12_confessing N x1 x2 S = some o) : gM l yX12_confessing cX12_confessing 5 ((some .int)) 7 D (mtys cI cS) (mcell g cI cS sa) mord g Am [.ref (g 99), .int x1, .int x2] S (some (.int o.1)) o.2 :=
  gM_of O P (by decide) (Nat.le_of_ble_eq_true rfl) (fun p e s m args below meth c ls C X hl => bX12_confessing_0 C O X (lv_sub hl [0, 1, 2] rfl) hF)
-- see
noncomputable def fX12_see_b58 (N : Nat) (x1 : Int32) (x2 : Int32) (x3 : Int32) (S : gS) : Option (Int32 × gS) := chk (inb (S 99 40) (8)) (lt (sU S 48 (Int32.toNatClampNeg (S 99 40)) x1) fun S1 => (chk (inb (S1 99 40) (8)) (lt (sU S1 49 (Int32.toNatClampNeg (S1 99 40)) x2) fun S2 => (chk (inb (S2 99 40) (8)) (lt (sU S2 50 (Int32.toNatClampNeg (S2 99 40)) x3) fun S3 => (lt (sU S3 99 40 (((S3 99 40) + 1 : Int32))) fun S4 => (some (S4 99 40, S4))))))))
theorem bX12_see_58 {N : Nat} {x1 : Int32} {x2 : Int32} {x3 : Int32} {S : gS} {H : Heap} {locs : List Loc} {ls : Array Slot} {o : Int32 × gS} (C : gC p s m args meth c cX12_see 4 RX12 ((some .int)) D (mtys cI cS) mord g Am) (O : gO (mcell g cI cS sa) mord g) (X : gX D (mcell g cI cS sa) mord g S s H locs) (hl : lv_has ls 4 [(0, .ref (g 99)), (1, .int x1), (2, .int x2), (3, .int x3)]) (hF : fX12_see_b58 N x1 x2 x3 S = some o) : W p l e (rmd 2) s m args below meth c H locs 0 0 (gE below args s D (mtys cI cS) (mcell g cI cS sa) mord g (some (.int o.1)) o.2) (F0 m 58 ls []) := by
  unfold fX12_see_b58 at hF
  refine lv_aload_n C.1.1 C.1.2.1 dX12_see_58 rfl (lv_at hl 0 rfl) ?_
  refine m_g48 C X dX12_see_59 ?_
  refine lv_aload_n C.1.1 C.1.2.1 dX12_see_62 rfl (lv_at hl 0 rfl) ?_
  refine m_g40 C X dX12_see_63 ?_
  refine lv_iload_n C.1.1 C.1.2.1 dX12_see_66 rfl (lv_at hl 1 rfl) ?_
  obtain ⟨h_1, hF⟩ := chk_some hF
  obtain ⟨S1, eS1, hF⟩ := lt_some hF
  refine m_w48 C O X  (inb_vp h_1) rfl eS1 dX12_see_67 (fun H locs X => ?_)
  refine lv_aload_n C.1.1 C.1.2.1 dX12_see_68 rfl (lv_at hl 0 rfl) ?_
  refine m_g49 C X dX12_see_69 ?_
  refine lv_aload_n C.1.1 C.1.2.1 dX12_see_72 rfl (lv_at hl 0 rfl) ?_
  refine m_g40 C X dX12_see_73 ?_
  refine lv_iload_n C.1.1 C.1.2.1 dX12_see_76 rfl (lv_at hl 2 rfl) ?_
  obtain ⟨h_2, hF⟩ := chk_some hF
  obtain ⟨S2, eS2, hF⟩ := lt_some hF
  refine m_w49 C O X  (inb_vp h_2) rfl eS2 dX12_see_77 (fun H locs X => ?_)
  refine lv_aload_n C.1.1 C.1.2.1 dX12_see_78 rfl (lv_at hl 0 rfl) ?_
  refine m_g50 C X dX12_see_79 ?_
  refine lv_aload_n C.1.1 C.1.2.1 dX12_see_82 rfl (lv_at hl 0 rfl) ?_
  refine m_g40 C X dX12_see_83 ?_
  refine lv_iload_n C.1.1 C.1.2.1 dX12_see_86 rfl (lv_at hl 3 rfl) ?_
  obtain ⟨h_3, hF⟩ := chk_some hF
  obtain ⟨S3, eS3, hF⟩ := lt_some hF
  refine m_w50 C O X  (inb_vp h_3) rfl eS3 dX12_see_87 (fun H locs X => ?_)
  refine lv_aload_n C.1.1 C.1.2.1 dX12_see_88 rfl (lv_at hl 0 rfl) ?_
  refine lv_dup C.1.1 C.1.2.1 dX12_see_89 rfl ?_
  refine m_g40 C X dX12_see_90 ?_
  refine lv_iconst (v := 1) C.1.1 C.1.2.1 dX12_see_93 (by decide) ?_
  refine lv_iadd C.1.1 C.1.2.1 dX12_see_94 ?_
  obtain ⟨S4, eS4, hF⟩ := lt_some hF
  refine m_p40 C O X eS4 dX12_see_95 (fun H locs X => ?_)
  refine lv_aload_n C.1.1 C.1.2.1 dX12_see_98 rfl (lv_at hl 0 rfl) ?_
  refine m_g40 C X dX12_see_99 ?_
  cases hF
  exact g_iret C X dX12_see_102
noncomputable def fX12_see_b52 (N : Nat) (S : gS) : Option (Int32 × gS) := bnd (fX12_refuse N 2 S) fun q1 => (some (q1.1, q1.2))
theorem bX12_see_52 {N : Nat} {S : gS} {H : Heap} {locs : List Loc} {ls : Array Slot} {o : Int32 × gS} (C : gC p s m args meth c cX12_see 4 RX12 ((some .int)) D (mtys cI cS) mord g Am) (O : gO (mcell g cI cS sa) mord g) (X : gX D (mcell g cI cS sa) mord g S s H locs) (hl : lv_has ls 4 [(0, .ref (g 99))]) (hF : fX12_see_b52 N S = some o) : W p l e (rmd 2) s m args below meth c H locs 0 0 (gE below args s D (mtys cI cS) (mcell g cI cS sa) mord g (some (.int o.1)) o.2) (F0 m 52 ls []) := by
  unfold fX12_see_b52 at hF
  refine lv_aload_n C.1.1 C.1.2.1 dX12_see_52 rfl (lv_at hl 0 rfl) ?_
  refine lv_iconst (v := 2) C.1.1 C.1.2.1 dX12_see_53 (by decide) ?_
  obtain ⟨q1, hq1, hF⟩ := bnd_some hF
  refine m_callVi C X vX12_refuse rfl (kX12_refuse O C.2.2.2.2.1 N 2  S q1 hq1) (Nat.le_of_ble_eq_true rfl) (Nat.le_of_ble_eq_true rfl) (Nat.le_of_ble_eq_true rfl) (Nat.le_of_ble_eq_true rfl) rfl hl.1 rfl (Nat.le_of_ble_eq_true rfl) dX12_see_54 (fun H locs X => ?_)
  cases hF
  exact g_iret C X dX12_see_57
noncomputable def fX12_see_b40 (N : Nat) (x1 : Int32) (x2 : Int32) (x3 : Int32) (S : gS) : Option (Int32 × gS) := bnd (fX12_isIn N (Int32.toInt64 x3) 0 99 S) fun q1 => (if q1.1 = 0 then fX12_see_b52 N q1.2 else fX12_see_b58 N x1 x2 x3 q1.2)
theorem bX12_see_40 {N : Nat} {x1 : Int32} {x2 : Int32} {x3 : Int32} {S : gS} {H : Heap} {locs : List Loc} {ls : Array Slot} {o : Int32 × gS} (C : gC p s m args meth c cX12_see 4 RX12 ((some .int)) D (mtys cI cS) mord g Am) (O : gO (mcell g cI cS sa) mord g) (X : gX D (mcell g cI cS sa) mord g S s H locs) (hl : lv_has ls 4 [(0, .ref (g 99)), (1, .int x1), (2, .int x2), (3, .int x3)]) (hF : fX12_see_b40 N x1 x2 x3 S = some o) : W p l e (rmd 2) s m args below meth c H locs 0 0 (gE below args s D (mtys cI cS) (mcell g cI cS sa) mord g (some (.int o.1)) o.2) (F0 m 40 ls []) := by
  unfold fX12_see_b40 at hF
  refine lv_iload_n C.1.1 C.1.2.1 dX12_see_40 rfl (lv_at hl 3 rfl) ?_
  refine lv_i2l (v := Int32.toInt64 x3) C.1.1 C.1.2.1 dX12_see_41 rfl ?_
  refine lv_lconst (v := 0) C.1.1 C.1.2.1 dX12_see_42 (by decide) ?_
  refine lv_ldc2 C.1.1 C.1.2.1 C.1.2.2.2.1 (C.1.2.2.2.2 _ mKL453) dX12_see_43 ?_
  obtain ⟨q1, hq1, hF⟩ := bnd_some hF
  refine g_callSi C X vX12_isIn (kX12_isIn O C.2.2.2.2.1 N (Int32.toInt64 x3) 0 99  S q1 hq1) (Nat.le_of_ble_eq_true rfl) (Nat.le_of_ble_eq_true rfl) (Nat.le_of_ble_eq_true rfl) (Nat.le_of_ble_eq_true rfl) rfl hl.1 rfl (Nat.le_of_ble_eq_true rfl) dX12_see_46 (fun H locs X => ?_)
  refine lv_if_ne (tgt := 58) C.1.1 C.1.2.1 dX12_see_49 (by decide) (fun h_z => ?_) (fun h_z => ?_)
  · rw [if_neg h_z] at hF
    exact bX12_see_58 C O X (lv_sub hl [0, 1, 2, 3] rfl) hF
  · rw [if_pos h_z] at hF
    exact bX12_see_52 C O X (lv_sub hl [0] rfl) hF
noncomputable def fX12_see_b28 (N : Nat) (x1 : Int32) (x2 : Int32) (x3 : Int32) (S : gS) : Option (Int32 × gS) := bnd (fX12_isIn N (Int32.toInt64 x2) 0 20 S) fun q1 => (if q1.1 = 0 then fX12_see_b52 N q1.2 else fX12_see_b40 N x1 x2 x3 q1.2)
theorem bX12_see_28 {N : Nat} {x1 : Int32} {x2 : Int32} {x3 : Int32} {S : gS} {H : Heap} {locs : List Loc} {ls : Array Slot} {o : Int32 × gS} (C : gC p s m args meth c cX12_see 4 RX12 ((some .int)) D (mtys cI cS) mord g Am) (O : gO (mcell g cI cS sa) mord g) (X : gX D (mcell g cI cS sa) mord g S s H locs) (hl : lv_has ls 4 [(0, .ref (g 99)), (1, .int x1), (2, .int x2), (3, .int x3)]) (hF : fX12_see_b28 N x1 x2 x3 S = some o) : W p l e (rmd 2) s m args below meth c H locs 0 0 (gE below args s D (mtys cI cS) (mcell g cI cS sa) mord g (some (.int o.1)) o.2) (F0 m 28 ls []) := by
  unfold fX12_see_b28 at hF
  refine lv_iload_n C.1.1 C.1.2.1 dX12_see_28 rfl (lv_at hl 2 rfl) ?_
  refine lv_i2l (v := Int32.toInt64 x2) C.1.1 C.1.2.1 dX12_see_29 rfl ?_
  refine lv_lconst (v := 0) C.1.1 C.1.2.1 dX12_see_30 (by decide) ?_
  refine lv_ldc2 C.1.1 C.1.2.1 C.1.2.2.2.1 (C.1.2.2.2.2 _ mKL404) dX12_see_31 ?_
  obtain ⟨q1, hq1, hF⟩ := bnd_some hF
  refine g_callSi C X vX12_isIn (kX12_isIn O C.2.2.2.2.1 N (Int32.toInt64 x2) 0 20  S q1 hq1) (Nat.le_of_ble_eq_true rfl) (Nat.le_of_ble_eq_true rfl) (Nat.le_of_ble_eq_true rfl) (Nat.le_of_ble_eq_true rfl) rfl hl.1 rfl (Nat.le_of_ble_eq_true rfl) dX12_see_34 (fun H locs X => ?_)
  refine lv_if_eq (tgt := 52) C.1.1 C.1.2.1 dX12_see_37 (by decide) (fun h_z => ?_) (fun h_z => ?_)
  · rw [if_pos h_z] at hF
    exact bX12_see_52 C O X (lv_sub hl [0] rfl) hF
  · rw [if_neg h_z] at hF
    exact bX12_see_40 C O X (lv_sub hl [0, 1, 2, 3] rfl) hF
noncomputable def fX12_see_b19 (N : Nat) (x1 : Int32) (x2 : Int32) (x3 : Int32) (S : gS) : Option (Int32 × gS) := if (S 99 40) = 8 then fX12_see_b52 N S else fX12_see_b28 N x1 x2 x3 S
theorem bX12_see_19 {N : Nat} {x1 : Int32} {x2 : Int32} {x3 : Int32} {S : gS} {H : Heap} {locs : List Loc} {ls : Array Slot} {o : Int32 × gS} (C : gC p s m args meth c cX12_see 4 RX12 ((some .int)) D (mtys cI cS) mord g Am) (O : gO (mcell g cI cS sa) mord g) (X : gX D (mcell g cI cS sa) mord g S s H locs) (hl : lv_has ls 4 [(0, .ref (g 99)), (1, .int x1), (2, .int x2), (3, .int x3)]) (hF : fX12_see_b19 N x1 x2 x3 S = some o) : W p l e (rmd 2) s m args below meth c H locs 0 0 (gE below args s D (mtys cI cS) (mcell g cI cS sa) mord g (some (.int o.1)) o.2) (F0 m 19 ls []) := by
  unfold fX12_see_b19 at hF
  refine lv_aload_n C.1.1 C.1.2.1 dX12_see_19 rfl (lv_at hl 0 rfl) ?_
  refine m_g40 C X dX12_see_20 ?_
  refine lv_bipush (v := 8) C.1.1 C.1.2.1 dX12_see_23 (by decide) ?_
  refine lv_icmp_eq (tgt := 52) C.1.1 C.1.2.1 dX12_see_25 (by decide) (fun h_z => ?_) (fun h_z => ?_)
  · rw [if_pos h_z] at hF
    exact bX12_see_52 C O X (lv_sub hl [0] rfl) hF
  · rw [if_neg h_z] at hF
    exact bX12_see_28 C O X (lv_sub hl [0, 1, 2, 3] rfl) hF
noncomputable def fX12_see_b13 (N : Nat) (S : gS) : Option (Int32 × gS) := bnd (fX12_fail N 1 S) fun q1 => (some (q1.1, q1.2))
theorem bX12_see_13 {N : Nat} {S : gS} {H : Heap} {locs : List Loc} {ls : Array Slot} {o : Int32 × gS} (C : gC p s m args meth c cX12_see 4 RX12 ((some .int)) D (mtys cI cS) mord g Am) (O : gO (mcell g cI cS sa) mord g) (X : gX D (mcell g cI cS sa) mord g S s H locs) (hl : lv_has ls 4 [(0, .ref (g 99))]) (hF : fX12_see_b13 N S = some o) : W p l e (rmd 2) s m args below meth c H locs 0 0 (gE below args s D (mtys cI cS) (mcell g cI cS sa) mord g (some (.int o.1)) o.2) (F0 m 13 ls []) := by
  unfold fX12_see_b13 at hF
  refine lv_aload_n C.1.1 C.1.2.1 dX12_see_13 rfl (lv_at hl 0 rfl) ?_
  refine lv_iconst (v := 1) C.1.1 C.1.2.1 dX12_see_14 (by decide) ?_
  obtain ⟨q1, hq1, hF⟩ := bnd_some hF
  refine m_callVi C X vX12_fail rfl (kX12_fail O C.2.2.2.2.1 N 1  S q1 hq1) (Nat.le_of_ble_eq_true rfl) (Nat.le_of_ble_eq_true rfl) (Nat.le_of_ble_eq_true rfl) (Nat.le_of_ble_eq_true rfl) rfl hl.1 rfl (Nat.le_of_ble_eq_true rfl) dX12_see_15 (fun H locs X => ?_)
  cases hF
  exact g_iret C X dX12_see_18
noncomputable def fX12_see_b0 (N : Nat) (x1 : Int32) (x2 : Int32) (x3 : Int32) (S : gS) : Option (Int32 × gS) := lt (sU S 99 4 0) fun S1 => (bnd (fX12_isGuild N x1 S1) fun q1 => (if q1.1 = 0 then fX12_see_b13 N q1.2 else fX12_see_b19 N x1 x2 x3 q1.2))
theorem bX12_see_0 {N : Nat} {x1 : Int32} {x2 : Int32} {x3 : Int32} {S : gS} {H : Heap} {locs : List Loc} {ls : Array Slot} {o : Int32 × gS} (C : gC p s m args meth c cX12_see 4 RX12 ((some .int)) D (mtys cI cS) mord g Am) (O : gO (mcell g cI cS sa) mord g) (X : gX D (mcell g cI cS sa) mord g S s H locs) (hl : lv_has ls 4 [(0, .ref (g 99)), (1, .int x1), (2, .int x2), (3, .int x3)]) (hF : fX12_see_b0 N x1 x2 x3 S = some o) : W p l e (rmd 2) s m args below meth c H locs 0 0 (gE below args s D (mtys cI cS) (mcell g cI cS sa) mord g (some (.int o.1)) o.2) (F0 m 0 ls []) := by
  unfold fX12_see_b0 at hF
  refine lv_aload_n C.1.1 C.1.2.1 dX12_see_0 rfl (lv_at hl 0 rfl) ?_
  refine lv_iconst (v := 0) C.1.1 C.1.2.1 dX12_see_1 (by decide) ?_
  obtain ⟨S1, eS1, hF⟩ := lt_some hF
  refine m_p4 C O X eS1 dX12_see_2 (fun H locs X => ?_)
  refine lv_aload_n C.1.1 C.1.2.1 dX12_see_5 rfl (lv_at hl 0 rfl) ?_
  refine lv_iload_n C.1.1 C.1.2.1 dX12_see_6 rfl (lv_at hl 1 rfl) ?_
  obtain ⟨q1, hq1, hF⟩ := bnd_some hF
  refine m_callVi C X vX12_isGuild rfl (kX12_isGuild O C.2.2.2.2.1 N x1  S1 q1 hq1) (Nat.le_of_ble_eq_true rfl) (Nat.le_of_ble_eq_true rfl) (Nat.le_of_ble_eq_true rfl) (Nat.le_of_ble_eq_true rfl) rfl hl.1 rfl (Nat.le_of_ble_eq_true rfl) dX12_see_7 (fun H locs X => ?_)
  refine lv_if_ne (tgt := 19) C.1.1 C.1.2.1 dX12_see_10 (by decide) (fun h_z => ?_) (fun h_z => ?_)
  · rw [if_neg h_z] at hF
    exact bX12_see_19 C O X (lv_sub hl [0, 1, 2, 3] rfl) hF
  · rw [if_pos h_z] at hF
    exact bX12_see_13 C O X (lv_sub hl [0] rfl) hF
noncomputable def fX12_see (N : Nat) (x1 : Int32) (x2 : Int32) (x3 : Int32) (S : gS) : Option (Int32 × gS) := fX12_see_b0 N x1 x2 x3 S
theorem kX12_see {l : Launch} {D : va_G} {g : Nat → Nat} {cI cS : ClassId} {sa : Nat → Nat → Option Nat} {Am : (Nat → Prop) → State → Heap → Prop} (O : gO (mcell g cI cS sa) mord g) (P : gAm Am) (N : Nat) (x1 : Int32) (x2 : Int32) (x3 : Int32) (S : gS) (o : Int32 × gS) (hF : fX12_see N x1 x2 x3 S = some o) : gM l yX12_see cX12_see 4 ((some .int)) 2 D (mtys cI cS) (mcell g cI cS sa) mord g Am [.ref (g 99), .int x1, .int x2, .int x3] S (some (.int o.1)) o.2 :=
  gM_of O P (by decide) (Nat.le_of_ble_eq_true rfl) (fun p e s m args below meth c ls C X hl => bX12_see_0 C O X (lv_sub hl [0, 1, 2, 3] rfl) hF)
-- isAsSeen
noncomputable def fX12_isAsSeen_b122 (N : Nat) (x2 : Int32) (S : gS) : Option (Int32 × gS) := bnd (fX12_unpack N 51 0 S) fun q1 => (chk (zb x2) (some (x2, q1.2)))
theorem bX12_isAsSeen_122 {N : Nat} {x2 : Int32} {S : gS} {H : Heap} {locs : List Loc} {ls : Array Slot} {o : Int32 × gS} (C : gC p s m args meth c cX12_isAsSeen 5 RX12 ((some .boolean)) D (mtys cI cS) mord g Am) (O : gO (mcell g cI cS sa) mord g) (X : gX D (mcell g cI cS sa) mord g S s H locs) (hl : lv_has ls 5 [(0, .ref (g 99)), (2, .int x2)]) (hF : fX12_isAsSeen_b122 N x2 S = some o) : W p l e (rmd 6) s m args below meth c H locs 0 0 (gE below args s D (mtys cI cS) (mcell g cI cS sa) mord g (some (.int o.1)) o.2) (F0 m 122 ls []) := by
  unfold fX12_isAsSeen_b122 at hF
  refine lv_aload_n C.1.1 C.1.2.1 dX12_isAsSeen_122 rfl (lv_at hl 0 rfl) ?_
  refine lv_aload_n C.1.1 C.1.2.1 dX12_isAsSeen_123 rfl (lv_at hl 0 rfl) ?_
  refine m_g51 C X dX12_isAsSeen_124 ?_
  refine lv_iconst (v := 0) C.1.1 C.1.2.1 dX12_isAsSeen_127 (by decide) ?_
  obtain ⟨q1, hq1, hF⟩ := bnd_some hF
  refine m_callV C X vX12_unpack rfl (kX12_unpack O C.2.2.2.2.1 N 51 0 (rfl : mI 51 = true) S q1 hq1) (Nat.le_of_ble_eq_true rfl) (Nat.le_of_ble_eq_true rfl) (Nat.le_of_ble_eq_true rfl) (Nat.le_of_ble_eq_true rfl) rfl hl.1 rfl (Nat.le_of_ble_eq_true rfl) dX12_isAsSeen_128 (fun H locs X => ?_)
  refine lv_iload_n C.1.1 C.1.2.1 dX12_isAsSeen_131 rfl (lv_at hl 1 rfl) ?_
  obtain ⟨h_1, hF⟩ := chk_some hF
  cases hF
  exact g_zret C X h_1 dX12_isAsSeen_132
noncomputable def fX12_isAsSeen_b112 (N : Nat) (r42 : Int32 → Int32 → Int32 → gS → Option (Int32 × gS)) (x1 : Int32) (x2 : Int32) (x3 : Int32) (S : gS) : Option (Int32 × gS) := bnd (fX12_anHour N  S) fun q1 => (r42 x1 x2 ((x3 + 1 : Int32)) q1.2)
theorem bX12_isAsSeen_112 {N : Nat} {r42 : Int32 → Int32 → Int32 → gS → Option (Int32 × gS)} {x1 : Int32} {x2 : Int32} {x3 : Int32} {S : gS} {H : Heap} {locs : List Loc} {ls : Array Slot} {o : Int32 × gS} (C : gC p s m args meth c cX12_isAsSeen 5 RX12 ((some .boolean)) D (mtys cI cS) mord g Am) (O : gO (mcell g cI cS sa) mord g) (K42 : ∀ (x1 : Int32) (x2 : Int32) (x3 : Int32) (S : gS) (H : Heap) (locs : List Loc) (ls : Array Slot), gX D (mcell g cI cS sa) mord g S s H locs → lv_has ls 5 [(0, .ref (g 99)), (1, .int x1), (2, .int x2), (3, .int x3)] → r42 x1 x2 x3 S = some o → W p l e (rmd 6) s m args below meth c H locs 0 0 (gE below args s D (mtys cI cS) (mcell g cI cS sa) mord g (some (.int o.1)) o.2) (F0 m 42 ls [])) (X : gX D (mcell g cI cS sa) mord g S s H locs) (hl : lv_has ls 5 [(0, .ref (g 99)), (1, .int x1), (2, .int x2), (3, .int x3)]) (hF : fX12_isAsSeen_b112 N r42 x1 x2 x3 S = some o) : W p l e (rmd 6) s m args below meth c H locs 0 0 (gE below args s D (mtys cI cS) (mcell g cI cS sa) mord g (some (.int o.1)) o.2) (F0 m 112 ls []) := by
  unfold fX12_isAsSeen_b112 at hF
  refine lv_aload_n C.1.1 C.1.2.1 dX12_isAsSeen_112 rfl (lv_at hl 0 rfl) ?_
  obtain ⟨q1, hq1, hF⟩ := bnd_some hF
  refine m_callV C X vX12_anHour rfl (kX12_anHour O C.2.2.2.2.1 N   S q1 hq1) (Nat.le_of_ble_eq_true rfl) (Nat.le_of_ble_eq_true rfl) (Nat.le_of_ble_eq_true rfl) (Nat.le_of_ble_eq_true rfl) rfl hl.1 rfl (Nat.le_of_ble_eq_true rfl) dX12_isAsSeen_113 (fun H locs X => ?_)
  refine lv_iinc (v := (x3 + 1 : Int32)) (lv' := [(3, .int ((x3 + 1 : Int32))), (0, .ref (g 99)), (1, .int x1), (2, .int x2)]) C.1.1 C.1.2.1 dX12_isAsSeen_116 hl (k := 3) rfl rfl (by decide) rfl (fun ls hl => ?_)
  refine lv_goto (tgt := 42) C.1.1 C.1.2.1 dX12_isAsSeen_119 (by decide) ?_
  exact K42 _ _ _ _ _ _ _ X (lv_sub hl [1, 2, 3, 0] rfl) hF
noncomputable def fX12_isAsSeen_b105 (N : Nat) (r42 : Int32 → Int32 → Int32 → gS → Option (Int32 × gS)) (r54 : Int32 → Int32 → Int32 → Int32 → gS → Option (Int32 × gS)) (x1 : Int32) (x3 : Int32) (x4 : Int32) (t0 : Int32) (S : gS) : Option (Int32 × gS) := r54 x1 t0 x3 ((x4 + 1 : Int32)) S
theorem bX12_isAsSeen_105 {N : Nat} {r42 : Int32 → Int32 → Int32 → gS → Option (Int32 × gS)} {r54 : Int32 → Int32 → Int32 → Int32 → gS → Option (Int32 × gS)} {x1 : Int32} {x3 : Int32} {x4 : Int32} {t0 : Int32} {S : gS} {H : Heap} {locs : List Loc} {ls : Array Slot} {o : Int32 × gS} (C : gC p s m args meth c cX12_isAsSeen 5 RX12 ((some .boolean)) D (mtys cI cS) mord g Am) (O : gO (mcell g cI cS sa) mord g) (K42 : ∀ (x1 : Int32) (x2 : Int32) (x3 : Int32) (S : gS) (H : Heap) (locs : List Loc) (ls : Array Slot), gX D (mcell g cI cS sa) mord g S s H locs → lv_has ls 5 [(0, .ref (g 99)), (1, .int x1), (2, .int x2), (3, .int x3)] → r42 x1 x2 x3 S = some o → W p l e (rmd 6) s m args below meth c H locs 0 0 (gE below args s D (mtys cI cS) (mcell g cI cS sa) mord g (some (.int o.1)) o.2) (F0 m 42 ls [])) (K54 : ∀ (x1 : Int32) (x2 : Int32) (x3 : Int32) (x4 : Int32) (S : gS) (H : Heap) (locs : List Loc) (ls : Array Slot), gX D (mcell g cI cS sa) mord g S s H locs → lv_has ls 5 [(0, .ref (g 99)), (1, .int x1), (2, .int x2), (3, .int x3), (4, .int x4)] → r54 x1 x2 x3 x4 S = some o → W p l e (rmd 6) s m args below meth c H locs 0 0 (gE below args s D (mtys cI cS) (mcell g cI cS sa) mord g (some (.int o.1)) o.2) (F0 m 54 ls [])) (X : gX D (mcell g cI cS sa) mord g S s H locs) (hl : lv_has ls 5 [(0, .ref (g 99)), (1, .int x1), (3, .int x3), (4, .int x4)]) (hF : fX12_isAsSeen_b105 N r42 r54 x1 x3 x4 t0 S = some o) : W p l e (rmd 6) s m args below meth c H locs 0 0 (gE below args s D (mtys cI cS) (mcell g cI cS sa) mord g (some (.int o.1)) o.2) (F0 m 105 ls [.int t0]) := by
  unfold fX12_isAsSeen_b105 at hF
  refine lv_istore_n (lv' := [(2, .int t0), (0, .ref (g 99)), (1, .int x1), (3, .int x3), (4, .int x4)]) C.1.1 C.1.2.1 dX12_isAsSeen_105 rfl hl (by decide) rfl (fun ls hl => ?_)
  refine lv_iinc (v := (x4 + 1 : Int32)) (lv' := [(4, .int ((x4 + 1 : Int32))), (2, .int t0), (0, .ref (g 99)), (1, .int x1), (3, .int x3)]) C.1.1 C.1.2.1 dX12_isAsSeen_106 hl (k := 4) rfl rfl (by decide) rfl (fun ls hl => ?_)
  refine lv_goto (tgt := 54) C.1.1 C.1.2.1 dX12_isAsSeen_109 (by decide) ?_
  exact K54 _ _ _ _ _ _ _ _ X (lv_sub hl [2, 3, 1, 4, 0] rfl) hF
noncomputable def fX12_isAsSeen_b104 (N : Nat) (r42 : Int32 → Int32 → Int32 → gS → Option (Int32 × gS)) (r54 : Int32 → Int32 → Int32 → Int32 → gS → Option (Int32 × gS)) (x1 : Int32) (x3 : Int32) (x4 : Int32) (S : gS) : Option (Int32 × gS) := fX12_isAsSeen_b105 N r42 r54 x1 x3 x4 0 S
theorem bX12_isAsSeen_104 {N : Nat} {r42 : Int32 → Int32 → Int32 → gS → Option (Int32 × gS)} {r54 : Int32 → Int32 → Int32 → Int32 → gS → Option (Int32 × gS)} {x1 : Int32} {x3 : Int32} {x4 : Int32} {S : gS} {H : Heap} {locs : List Loc} {ls : Array Slot} {o : Int32 × gS} (C : gC p s m args meth c cX12_isAsSeen 5 RX12 ((some .boolean)) D (mtys cI cS) mord g Am) (O : gO (mcell g cI cS sa) mord g) (K42 : ∀ (x1 : Int32) (x2 : Int32) (x3 : Int32) (S : gS) (H : Heap) (locs : List Loc) (ls : Array Slot), gX D (mcell g cI cS sa) mord g S s H locs → lv_has ls 5 [(0, .ref (g 99)), (1, .int x1), (2, .int x2), (3, .int x3)] → r42 x1 x2 x3 S = some o → W p l e (rmd 6) s m args below meth c H locs 0 0 (gE below args s D (mtys cI cS) (mcell g cI cS sa) mord g (some (.int o.1)) o.2) (F0 m 42 ls [])) (K54 : ∀ (x1 : Int32) (x2 : Int32) (x3 : Int32) (x4 : Int32) (S : gS) (H : Heap) (locs : List Loc) (ls : Array Slot), gX D (mcell g cI cS sa) mord g S s H locs → lv_has ls 5 [(0, .ref (g 99)), (1, .int x1), (2, .int x2), (3, .int x3), (4, .int x4)] → r54 x1 x2 x3 x4 S = some o → W p l e (rmd 6) s m args below meth c H locs 0 0 (gE below args s D (mtys cI cS) (mcell g cI cS sa) mord g (some (.int o.1)) o.2) (F0 m 54 ls [])) (X : gX D (mcell g cI cS sa) mord g S s H locs) (hl : lv_has ls 5 [(0, .ref (g 99)), (1, .int x1), (3, .int x3), (4, .int x4)]) (hF : fX12_isAsSeen_b104 N r42 r54 x1 x3 x4 S = some o) : W p l e (rmd 6) s m args below meth c H locs 0 0 (gE below args s D (mtys cI cS) (mcell g cI cS sa) mord g (some (.int o.1)) o.2) (F0 m 104 ls []) := by
  unfold fX12_isAsSeen_b104 at hF
  refine lv_iconst (v := 0) C.1.1 C.1.2.1 dX12_isAsSeen_104 (by decide) ?_
  exact bX12_isAsSeen_105 C O K42 K54 X (lv_sub hl [0, 1, 2, 3] rfl) hF
noncomputable def fX12_isAsSeen_b100 (N : Nat) (r42 : Int32 → Int32 → Int32 → gS → Option (Int32 × gS)) (r54 : Int32 → Int32 → Int32 → Int32 → gS → Option (Int32 × gS)) (x1 : Int32) (x3 : Int32) (x4 : Int32) (S : gS) : Option (Int32 × gS) := fX12_isAsSeen_b105 N r42 r54 x1 x3 x4 1 S
theorem bX12_isAsSeen_100 {N : Nat} {r42 : Int32 → Int32 → Int32 → gS → Option (Int32 × gS)} {r54 : Int32 → Int32 → Int32 → Int32 → gS → Option (Int32 × gS)} {x1 : Int32} {x3 : Int32} {x4 : Int32} {S : gS} {H : Heap} {locs : List Loc} {ls : Array Slot} {o : Int32 × gS} (C : gC p s m args meth c cX12_isAsSeen 5 RX12 ((some .boolean)) D (mtys cI cS) mord g Am) (O : gO (mcell g cI cS sa) mord g) (K42 : ∀ (x1 : Int32) (x2 : Int32) (x3 : Int32) (S : gS) (H : Heap) (locs : List Loc) (ls : Array Slot), gX D (mcell g cI cS sa) mord g S s H locs → lv_has ls 5 [(0, .ref (g 99)), (1, .int x1), (2, .int x2), (3, .int x3)] → r42 x1 x2 x3 S = some o → W p l e (rmd 6) s m args below meth c H locs 0 0 (gE below args s D (mtys cI cS) (mcell g cI cS sa) mord g (some (.int o.1)) o.2) (F0 m 42 ls [])) (K54 : ∀ (x1 : Int32) (x2 : Int32) (x3 : Int32) (x4 : Int32) (S : gS) (H : Heap) (locs : List Loc) (ls : Array Slot), gX D (mcell g cI cS sa) mord g S s H locs → lv_has ls 5 [(0, .ref (g 99)), (1, .int x1), (2, .int x2), (3, .int x3), (4, .int x4)] → r54 x1 x2 x3 x4 S = some o → W p l e (rmd 6) s m args below meth c H locs 0 0 (gE below args s D (mtys cI cS) (mcell g cI cS sa) mord g (some (.int o.1)) o.2) (F0 m 54 ls [])) (X : gX D (mcell g cI cS sa) mord g S s H locs) (hl : lv_has ls 5 [(0, .ref (g 99)), (1, .int x1), (3, .int x3), (4, .int x4)]) (hF : fX12_isAsSeen_b100 N r42 r54 x1 x3 x4 S = some o) : W p l e (rmd 6) s m args below meth c H locs 0 0 (gE below args s D (mtys cI cS) (mcell g cI cS sa) mord g (some (.int o.1)) o.2) (F0 m 100 ls []) := by
  unfold fX12_isAsSeen_b100 at hF
  refine lv_iconst (v := 1) C.1.1 C.1.2.1 dX12_isAsSeen_100 (by decide) ?_
  refine lv_goto (tgt := 105) C.1.1 C.1.2.1 dX12_isAsSeen_101 (by decide) ?_
  exact bX12_isAsSeen_105 C O K42 K54 X (lv_sub hl [0, 1, 2, 3] rfl) hF
noncomputable def fX12_isAsSeen_b78 (N : Nat) (r42 : Int32 → Int32 → Int32 → gS → Option (Int32 × gS)) (r54 : Int32 → Int32 → Int32 → Int32 → gS → Option (Int32 × gS)) (x1 : Int32) (x3 : Int32) (x4 : Int32) (S : gS) : Option (Int32 × gS) := chk (inb x4 (8)) (chk (inb (S 48 (Int32.toNatClampNeg x4)) (6)) (chk (inb x4 (8)) (if (S 32 (Int32.toNatClampNeg (S 48 (Int32.toNatClampNeg x4)))) = (S 50 (Int32.toNatClampNeg x4)) then fX12_isAsSeen_b100 N r42 r54 x1 x3 x4 S else fX12_isAsSeen_b104 N r42 r54 x1 x3 x4 S)))
theorem bX12_isAsSeen_78 {N : Nat} {r42 : Int32 → Int32 → Int32 → gS → Option (Int32 × gS)} {r54 : Int32 → Int32 → Int32 → Int32 → gS → Option (Int32 × gS)} {x1 : Int32} {x3 : Int32} {x4 : Int32} {S : gS} {H : Heap} {locs : List Loc} {ls : Array Slot} {o : Int32 × gS} (C : gC p s m args meth c cX12_isAsSeen 5 RX12 ((some .boolean)) D (mtys cI cS) mord g Am) (O : gO (mcell g cI cS sa) mord g) (K42 : ∀ (x1 : Int32) (x2 : Int32) (x3 : Int32) (S : gS) (H : Heap) (locs : List Loc) (ls : Array Slot), gX D (mcell g cI cS sa) mord g S s H locs → lv_has ls 5 [(0, .ref (g 99)), (1, .int x1), (2, .int x2), (3, .int x3)] → r42 x1 x2 x3 S = some o → W p l e (rmd 6) s m args below meth c H locs 0 0 (gE below args s D (mtys cI cS) (mcell g cI cS sa) mord g (some (.int o.1)) o.2) (F0 m 42 ls [])) (K54 : ∀ (x1 : Int32) (x2 : Int32) (x3 : Int32) (x4 : Int32) (S : gS) (H : Heap) (locs : List Loc) (ls : Array Slot), gX D (mcell g cI cS sa) mord g S s H locs → lv_has ls 5 [(0, .ref (g 99)), (1, .int x1), (2, .int x2), (3, .int x3), (4, .int x4)] → r54 x1 x2 x3 x4 S = some o → W p l e (rmd 6) s m args below meth c H locs 0 0 (gE below args s D (mtys cI cS) (mcell g cI cS sa) mord g (some (.int o.1)) o.2) (F0 m 54 ls [])) (X : gX D (mcell g cI cS sa) mord g S s H locs) (hl : lv_has ls 5 [(0, .ref (g 99)), (1, .int x1), (3, .int x3), (4, .int x4)]) (hF : fX12_isAsSeen_b78 N r42 r54 x1 x3 x4 S = some o) : W p l e (rmd 6) s m args below meth c H locs 0 0 (gE below args s D (mtys cI cS) (mcell g cI cS sa) mord g (some (.int o.1)) o.2) (F0 m 78 ls []) := by
  unfold fX12_isAsSeen_b78 at hF
  refine lv_aload_n C.1.1 C.1.2.1 dX12_isAsSeen_78 rfl (lv_at hl 0 rfl) ?_
  refine m_g32 C X dX12_isAsSeen_79 ?_
  refine lv_aload_n C.1.1 C.1.2.1 dX12_isAsSeen_82 rfl (lv_at hl 0 rfl) ?_
  refine m_g48 C X dX12_isAsSeen_83 ?_
  refine lv_iload C.1.1 C.1.2.1 dX12_isAsSeen_86 (lv_at hl 3 rfl) ?_
  obtain ⟨h_1, hF⟩ := chk_some hF
  refine m_r48 C X  (inb_vp h_1) rfl dX12_isAsSeen_88 ?_
  obtain ⟨h_2, hF⟩ := chk_some hF
  refine m_r32 C X  (inb_vp h_2) rfl dX12_isAsSeen_89 ?_
  refine lv_aload_n C.1.1 C.1.2.1 dX12_isAsSeen_90 rfl (lv_at hl 0 rfl) ?_
  refine m_g50 C X dX12_isAsSeen_91 ?_
  refine lv_iload C.1.1 C.1.2.1 dX12_isAsSeen_94 (lv_at hl 3 rfl) ?_
  obtain ⟨h_3, hF⟩ := chk_some hF
  refine m_r50 C X  (inb_vp h_3) rfl dX12_isAsSeen_96 ?_
  refine lv_icmp_ne (tgt := 104) C.1.1 C.1.2.1 dX12_isAsSeen_97 (by decide) (fun h_z => ?_) (fun h_z => ?_)
  · rw [if_neg h_z] at hF
    exact bX12_isAsSeen_104 C O K42 K54 X (lv_sub hl [0, 1, 2, 3] rfl) hF
  · rw [if_pos h_z] at hF
    exact bX12_isAsSeen_100 C O K42 K54 X (lv_sub hl [0, 1, 2, 3] rfl) hF
noncomputable def fX12_isAsSeen_b67 (N : Nat) (r42 : Int32 → Int32 → Int32 → gS → Option (Int32 × gS)) (r54 : Int32 → Int32 → Int32 → Int32 → gS → Option (Int32 × gS)) (x1 : Int32) (x3 : Int32) (x4 : Int32) (S : gS) : Option (Int32 × gS) := chk (inb x4 (8)) (if (S 49 (Int32.toNatClampNeg x4)) = x3 then fX12_isAsSeen_b78 N r42 r54 x1 x3 x4 S else fX12_isAsSeen_b100 N r42 r54 x1 x3 x4 S)
theorem bX12_isAsSeen_67 {N : Nat} {r42 : Int32 → Int32 → Int32 → gS → Option (Int32 × gS)} {r54 : Int32 → Int32 → Int32 → Int32 → gS → Option (Int32 × gS)} {x1 : Int32} {x3 : Int32} {x4 : Int32} {S : gS} {H : Heap} {locs : List Loc} {ls : Array Slot} {o : Int32 × gS} (C : gC p s m args meth c cX12_isAsSeen 5 RX12 ((some .boolean)) D (mtys cI cS) mord g Am) (O : gO (mcell g cI cS sa) mord g) (K42 : ∀ (x1 : Int32) (x2 : Int32) (x3 : Int32) (S : gS) (H : Heap) (locs : List Loc) (ls : Array Slot), gX D (mcell g cI cS sa) mord g S s H locs → lv_has ls 5 [(0, .ref (g 99)), (1, .int x1), (2, .int x2), (3, .int x3)] → r42 x1 x2 x3 S = some o → W p l e (rmd 6) s m args below meth c H locs 0 0 (gE below args s D (mtys cI cS) (mcell g cI cS sa) mord g (some (.int o.1)) o.2) (F0 m 42 ls [])) (K54 : ∀ (x1 : Int32) (x2 : Int32) (x3 : Int32) (x4 : Int32) (S : gS) (H : Heap) (locs : List Loc) (ls : Array Slot), gX D (mcell g cI cS sa) mord g S s H locs → lv_has ls 5 [(0, .ref (g 99)), (1, .int x1), (2, .int x2), (3, .int x3), (4, .int x4)] → r54 x1 x2 x3 x4 S = some o → W p l e (rmd 6) s m args below meth c H locs 0 0 (gE below args s D (mtys cI cS) (mcell g cI cS sa) mord g (some (.int o.1)) o.2) (F0 m 54 ls [])) (X : gX D (mcell g cI cS sa) mord g S s H locs) (hl : lv_has ls 5 [(0, .ref (g 99)), (1, .int x1), (3, .int x3), (4, .int x4)]) (hF : fX12_isAsSeen_b67 N r42 r54 x1 x3 x4 S = some o) : W p l e (rmd 6) s m args below meth c H locs 0 0 (gE below args s D (mtys cI cS) (mcell g cI cS sa) mord g (some (.int o.1)) o.2) (F0 m 67 ls []) := by
  unfold fX12_isAsSeen_b67 at hF
  refine lv_aload_n C.1.1 C.1.2.1 dX12_isAsSeen_67 rfl (lv_at hl 0 rfl) ?_
  refine m_g49 C X dX12_isAsSeen_68 ?_
  refine lv_iload C.1.1 C.1.2.1 dX12_isAsSeen_71 (lv_at hl 3 rfl) ?_
  obtain ⟨h_1, hF⟩ := chk_some hF
  refine m_r49 C X  (inb_vp h_1) rfl dX12_isAsSeen_73 ?_
  refine lv_iload_n C.1.1 C.1.2.1 dX12_isAsSeen_74 rfl (lv_at hl 2 rfl) ?_
  refine lv_icmp_ne (tgt := 100) C.1.1 C.1.2.1 dX12_isAsSeen_75 (by decide) (fun h_z => ?_) (fun h_z => ?_)
  · rw [if_neg h_z] at hF
    exact bX12_isAsSeen_100 C O K42 K54 X (lv_sub hl [0, 1, 2, 3] rfl) hF
  · rw [if_pos h_z] at hF
    exact bX12_isAsSeen_78 C O K42 K54 X (lv_sub hl [0, 1, 2, 3] rfl) hF
noncomputable def fX12_isAsSeen_b63 (N : Nat) (r42 : Int32 → Int32 → Int32 → gS → Option (Int32 × gS)) (r54 : Int32 → Int32 → Int32 → Int32 → gS → Option (Int32 × gS)) (x1 : Int32) (x2 : Int32) (x3 : Int32) (x4 : Int32) (S : gS) : Option (Int32 × gS) := if x2 = 0 then fX12_isAsSeen_b104 N r42 r54 x1 x3 x4 S else fX12_isAsSeen_b67 N r42 r54 x1 x3 x4 S
theorem bX12_isAsSeen_63 {N : Nat} {r42 : Int32 → Int32 → Int32 → gS → Option (Int32 × gS)} {r54 : Int32 → Int32 → Int32 → Int32 → gS → Option (Int32 × gS)} {x1 : Int32} {x2 : Int32} {x3 : Int32} {x4 : Int32} {S : gS} {H : Heap} {locs : List Loc} {ls : Array Slot} {o : Int32 × gS} (C : gC p s m args meth c cX12_isAsSeen 5 RX12 ((some .boolean)) D (mtys cI cS) mord g Am) (O : gO (mcell g cI cS sa) mord g) (K42 : ∀ (x1 : Int32) (x2 : Int32) (x3 : Int32) (S : gS) (H : Heap) (locs : List Loc) (ls : Array Slot), gX D (mcell g cI cS sa) mord g S s H locs → lv_has ls 5 [(0, .ref (g 99)), (1, .int x1), (2, .int x2), (3, .int x3)] → r42 x1 x2 x3 S = some o → W p l e (rmd 6) s m args below meth c H locs 0 0 (gE below args s D (mtys cI cS) (mcell g cI cS sa) mord g (some (.int o.1)) o.2) (F0 m 42 ls [])) (K54 : ∀ (x1 : Int32) (x2 : Int32) (x3 : Int32) (x4 : Int32) (S : gS) (H : Heap) (locs : List Loc) (ls : Array Slot), gX D (mcell g cI cS sa) mord g S s H locs → lv_has ls 5 [(0, .ref (g 99)), (1, .int x1), (2, .int x2), (3, .int x3), (4, .int x4)] → r54 x1 x2 x3 x4 S = some o → W p l e (rmd 6) s m args below meth c H locs 0 0 (gE below args s D (mtys cI cS) (mcell g cI cS sa) mord g (some (.int o.1)) o.2) (F0 m 54 ls [])) (X : gX D (mcell g cI cS sa) mord g S s H locs) (hl : lv_has ls 5 [(0, .ref (g 99)), (1, .int x1), (2, .int x2), (3, .int x3), (4, .int x4)]) (hF : fX12_isAsSeen_b63 N r42 r54 x1 x2 x3 x4 S = some o) : W p l e (rmd 6) s m args below meth c H locs 0 0 (gE below args s D (mtys cI cS) (mcell g cI cS sa) mord g (some (.int o.1)) o.2) (F0 m 63 ls []) := by
  unfold fX12_isAsSeen_b63 at hF
  refine lv_iload_n C.1.1 C.1.2.1 dX12_isAsSeen_63 rfl (lv_at hl 2 rfl) ?_
  refine lv_if_eq (tgt := 104) C.1.1 C.1.2.1 dX12_isAsSeen_64 (by decide) (fun h_z => ?_) (fun h_z => ?_)
  · rw [if_pos h_z] at hF
    exact bX12_isAsSeen_104 C O K42 K54 X (lv_sub hl [0, 1, 3, 4] rfl) hF
  · rw [if_neg h_z] at hF
    exact bX12_isAsSeen_67 C O K42 K54 X (lv_sub hl [0, 1, 3, 4] rfl) hF
noncomputable def fX12_isAsSeen_b54 (N : Nat) (r42 : Int32 → Int32 → Int32 → gS → Option (Int32 × gS)) (r54 : Int32 → Int32 → Int32 → Int32 → gS → Option (Int32 × gS)) (x1 : Int32) (x2 : Int32) (x3 : Int32) (x4 : Int32) (S : gS) : Option (Int32 × gS) := if (S 99 40) ≤ x4 then fX12_isAsSeen_b112 N r42 x1 x2 x3 S else fX12_isAsSeen_b63 N r42 r54 x1 x2 x3 x4 S
theorem bX12_isAsSeen_54 {N : Nat} {r42 : Int32 → Int32 → Int32 → gS → Option (Int32 × gS)} {r54 : Int32 → Int32 → Int32 → Int32 → gS → Option (Int32 × gS)} {x1 : Int32} {x2 : Int32} {x3 : Int32} {x4 : Int32} {S : gS} {H : Heap} {locs : List Loc} {ls : Array Slot} {o : Int32 × gS} (C : gC p s m args meth c cX12_isAsSeen 5 RX12 ((some .boolean)) D (mtys cI cS) mord g Am) (O : gO (mcell g cI cS sa) mord g) (K42 : ∀ (x1 : Int32) (x2 : Int32) (x3 : Int32) (S : gS) (H : Heap) (locs : List Loc) (ls : Array Slot), gX D (mcell g cI cS sa) mord g S s H locs → lv_has ls 5 [(0, .ref (g 99)), (1, .int x1), (2, .int x2), (3, .int x3)] → r42 x1 x2 x3 S = some o → W p l e (rmd 6) s m args below meth c H locs 0 0 (gE below args s D (mtys cI cS) (mcell g cI cS sa) mord g (some (.int o.1)) o.2) (F0 m 42 ls [])) (K54 : ∀ (x1 : Int32) (x2 : Int32) (x3 : Int32) (x4 : Int32) (S : gS) (H : Heap) (locs : List Loc) (ls : Array Slot), gX D (mcell g cI cS sa) mord g S s H locs → lv_has ls 5 [(0, .ref (g 99)), (1, .int x1), (2, .int x2), (3, .int x3), (4, .int x4)] → r54 x1 x2 x3 x4 S = some o → W p l e (rmd 6) s m args below meth c H locs 0 0 (gE below args s D (mtys cI cS) (mcell g cI cS sa) mord g (some (.int o.1)) o.2) (F0 m 54 ls [])) (X : gX D (mcell g cI cS sa) mord g S s H locs) (hl : lv_has ls 5 [(0, .ref (g 99)), (1, .int x1), (2, .int x2), (3, .int x3), (4, .int x4)]) (hF : fX12_isAsSeen_b54 N r42 r54 x1 x2 x3 x4 S = some o) : W p l e (rmd 6) s m args below meth c H locs 0 0 (gE below args s D (mtys cI cS) (mcell g cI cS sa) mord g (some (.int o.1)) o.2) (F0 m 54 ls []) := by
  unfold fX12_isAsSeen_b54 at hF
  refine lv_iload C.1.1 C.1.2.1 dX12_isAsSeen_54 (lv_at hl 4 rfl) ?_
  refine lv_aload_n C.1.1 C.1.2.1 dX12_isAsSeen_56 rfl (lv_at hl 0 rfl) ?_
  refine m_g40 C X dX12_isAsSeen_57 ?_
  refine lv_icmp_ge (tgt := 112) C.1.1 C.1.2.1 dX12_isAsSeen_60 (by decide) (fun h_z => ?_) (fun h_z => ?_)
  · rw [if_pos h_z] at hF
    exact bX12_isAsSeen_112 C O K42 X (lv_sub hl [0, 1, 2, 3] rfl) hF
  · rw [if_neg h_z] at hF
    exact bX12_isAsSeen_63 C O K42 K54 X (lv_sub hl [0, 1, 2, 3, 4] rfl) hF
noncomputable def fX12_isAsSeen_h54 (N : Nat) (r42 : Int32 → Int32 → Int32 → gS → Option (Int32 × gS)) : Nat → Int32 → Int32 → Int32 → Int32 → gS → Option (Int32 × gS)
  | 0, _, _, _, _, _ => none
  | n + 1, x1, x2, x3, x4, S => fX12_isAsSeen_b54 N r42 (fX12_isAsSeen_h54 N r42 n) x1 x2 x3 x4 S
theorem hX12_isAsSeen_54 {N : Nat} {r42 : Int32 → Int32 → Int32 → gS → Option (Int32 × gS)} {o : Int32 × gS} (C : gC p s m args meth c cX12_isAsSeen 5 RX12 ((some .boolean)) D (mtys cI cS) mord g Am) (O : gO (mcell g cI cS sa) mord g) (K42 : ∀ (x1 : Int32) (x2 : Int32) (x3 : Int32) (S : gS) (H : Heap) (locs : List Loc) (ls : Array Slot), gX D (mcell g cI cS sa) mord g S s H locs → lv_has ls 5 [(0, .ref (g 99)), (1, .int x1), (2, .int x2), (3, .int x3)] → r42 x1 x2 x3 S = some o → W p l e (rmd 6) s m args below meth c H locs 0 0 (gE below args s D (mtys cI cS) (mcell g cI cS sa) mord g (some (.int o.1)) o.2) (F0 m 42 ls [])) : ∀ (n : Nat) (x1 : Int32) (x2 : Int32) (x3 : Int32) (x4 : Int32) (S : gS) (H : Heap) (locs : List Loc) (ls : Array Slot), gX D (mcell g cI cS sa) mord g S s H locs → lv_has ls 5 [(0, .ref (g 99)), (1, .int x1), (2, .int x2), (3, .int x3), (4, .int x4)] → fX12_isAsSeen_h54 N r42 n x1 x2 x3 x4 S = some o → W p l e (rmd 6) s m args below meth c H locs 0 0 (gE below args s D (mtys cI cS) (mcell g cI cS sa) mord g (some (.int o.1)) o.2) (F0 m 54 ls []) := by
  intro n
  induction n with
  | zero =>
    intro x1 x2 x3 x4 S H locs ls X hl hF
    exact absurd (show (none : Option (Int32 × gS)) = some o from hF) (by simp)
  | succ n ih =>
    intro x1 x2 x3 x4 S H locs ls X hl hF
    have hF : fX12_isAsSeen_b54 N r42 (fX12_isAsSeen_h54 N r42 n) x1 x2 x3 x4 S = some o := hF
    exact bX12_isAsSeen_54 C O K42 ih X hl hF
noncomputable def fX12_isAsSeen_b51 (N : Nat) (r42 : Int32 → Int32 → Int32 → gS → Option (Int32 × gS)) (x1 : Int32) (x2 : Int32) (x3 : Int32) (S : gS) : Option (Int32 × gS) := fX12_isAsSeen_h54 N r42 N x1 x2 x3 0 S
theorem bX12_isAsSeen_51 {N : Nat} {r42 : Int32 → Int32 → Int32 → gS → Option (Int32 × gS)} {x1 : Int32} {x2 : Int32} {x3 : Int32} {S : gS} {H : Heap} {locs : List Loc} {ls : Array Slot} {o : Int32 × gS} (C : gC p s m args meth c cX12_isAsSeen 5 RX12 ((some .boolean)) D (mtys cI cS) mord g Am) (O : gO (mcell g cI cS sa) mord g) (K42 : ∀ (x1 : Int32) (x2 : Int32) (x3 : Int32) (S : gS) (H : Heap) (locs : List Loc) (ls : Array Slot), gX D (mcell g cI cS sa) mord g S s H locs → lv_has ls 5 [(0, .ref (g 99)), (1, .int x1), (2, .int x2), (3, .int x3)] → r42 x1 x2 x3 S = some o → W p l e (rmd 6) s m args below meth c H locs 0 0 (gE below args s D (mtys cI cS) (mcell g cI cS sa) mord g (some (.int o.1)) o.2) (F0 m 42 ls [])) (X : gX D (mcell g cI cS sa) mord g S s H locs) (hl : lv_has ls 5 [(0, .ref (g 99)), (1, .int x1), (2, .int x2), (3, .int x3)]) (hF : fX12_isAsSeen_b51 N r42 x1 x2 x3 S = some o) : W p l e (rmd 6) s m args below meth c H locs 0 0 (gE below args s D (mtys cI cS) (mcell g cI cS sa) mord g (some (.int o.1)) o.2) (F0 m 51 ls []) := by
  unfold fX12_isAsSeen_b51 at hF
  refine lv_iconst (v := 0) C.1.1 C.1.2.1 dX12_isAsSeen_51 (by decide) ?_
  refine lv_istore (lv' := [(4, .int 0), (0, .ref (g 99)), (1, .int x1), (2, .int x2), (3, .int x3)]) C.1.1 C.1.2.1 dX12_isAsSeen_52 hl (by decide) rfl (fun ls hl => ?_)
  exact hX12_isAsSeen_54 C O K42 N _ _ _ _ _ _ _ _ X (lv_sub hl [1, 2, 3, 4, 0] rfl) hF
noncomputable def fX12_isAsSeen_b47 (N : Nat) (r42 : Int32 → Int32 → Int32 → gS → Option (Int32 × gS)) (x1 : Int32) (x2 : Int32) (x3 : Int32) (S : gS) : Option (Int32 × gS) := if x2 = 0 then fX12_isAsSeen_b122 N x2 S else fX12_isAsSeen_b51 N r42 x1 x2 x3 S
theorem bX12_isAsSeen_47 {N : Nat} {r42 : Int32 → Int32 → Int32 → gS → Option (Int32 × gS)} {x1 : Int32} {x2 : Int32} {x3 : Int32} {S : gS} {H : Heap} {locs : List Loc} {ls : Array Slot} {o : Int32 × gS} (C : gC p s m args meth c cX12_isAsSeen 5 RX12 ((some .boolean)) D (mtys cI cS) mord g Am) (O : gO (mcell g cI cS sa) mord g) (K42 : ∀ (x1 : Int32) (x2 : Int32) (x3 : Int32) (S : gS) (H : Heap) (locs : List Loc) (ls : Array Slot), gX D (mcell g cI cS sa) mord g S s H locs → lv_has ls 5 [(0, .ref (g 99)), (1, .int x1), (2, .int x2), (3, .int x3)] → r42 x1 x2 x3 S = some o → W p l e (rmd 6) s m args below meth c H locs 0 0 (gE below args s D (mtys cI cS) (mcell g cI cS sa) mord g (some (.int o.1)) o.2) (F0 m 42 ls [])) (X : gX D (mcell g cI cS sa) mord g S s H locs) (hl : lv_has ls 5 [(0, .ref (g 99)), (1, .int x1), (2, .int x2), (3, .int x3)]) (hF : fX12_isAsSeen_b47 N r42 x1 x2 x3 S = some o) : W p l e (rmd 6) s m args below meth c H locs 0 0 (gE below args s D (mtys cI cS) (mcell g cI cS sa) mord g (some (.int o.1)) o.2) (F0 m 47 ls []) := by
  unfold fX12_isAsSeen_b47 at hF
  refine lv_iload_n C.1.1 C.1.2.1 dX12_isAsSeen_47 rfl (lv_at hl 2 rfl) ?_
  refine lv_if_eq (tgt := 122) C.1.1 C.1.2.1 dX12_isAsSeen_48 (by decide) (fun h_z => ?_) (fun h_z => ?_)
  · rw [if_pos h_z] at hF
    exact bX12_isAsSeen_122 C O X (lv_sub hl [0, 2] rfl) hF
  · rw [if_neg h_z] at hF
    exact bX12_isAsSeen_51 C O K42 X (lv_sub hl [0, 1, 2, 3] rfl) hF
noncomputable def fX12_isAsSeen_b42 (N : Nat) (r42 : Int32 → Int32 → Int32 → gS → Option (Int32 × gS)) (x1 : Int32) (x2 : Int32) (x3 : Int32) (S : gS) : Option (Int32 × gS) := if x1 < x3 then fX12_isAsSeen_b122 N x2 S else fX12_isAsSeen_b47 N r42 x1 x2 x3 S
theorem bX12_isAsSeen_42 {N : Nat} {r42 : Int32 → Int32 → Int32 → gS → Option (Int32 × gS)} {x1 : Int32} {x2 : Int32} {x3 : Int32} {S : gS} {H : Heap} {locs : List Loc} {ls : Array Slot} {o : Int32 × gS} (C : gC p s m args meth c cX12_isAsSeen 5 RX12 ((some .boolean)) D (mtys cI cS) mord g Am) (O : gO (mcell g cI cS sa) mord g) (K42 : ∀ (x1 : Int32) (x2 : Int32) (x3 : Int32) (S : gS) (H : Heap) (locs : List Loc) (ls : Array Slot), gX D (mcell g cI cS sa) mord g S s H locs → lv_has ls 5 [(0, .ref (g 99)), (1, .int x1), (2, .int x2), (3, .int x3)] → r42 x1 x2 x3 S = some o → W p l e (rmd 6) s m args below meth c H locs 0 0 (gE below args s D (mtys cI cS) (mcell g cI cS sa) mord g (some (.int o.1)) o.2) (F0 m 42 ls [])) (X : gX D (mcell g cI cS sa) mord g S s H locs) (hl : lv_has ls 5 [(0, .ref (g 99)), (1, .int x1), (2, .int x2), (3, .int x3)]) (hF : fX12_isAsSeen_b42 N r42 x1 x2 x3 S = some o) : W p l e (rmd 6) s m args below meth c H locs 0 0 (gE below args s D (mtys cI cS) (mcell g cI cS sa) mord g (some (.int o.1)) o.2) (F0 m 42 ls []) := by
  unfold fX12_isAsSeen_b42 at hF
  refine lv_iload_n C.1.1 C.1.2.1 dX12_isAsSeen_42 rfl (lv_at hl 3 rfl) ?_
  refine lv_iload_n C.1.1 C.1.2.1 dX12_isAsSeen_43 rfl (lv_at hl 1 rfl) ?_
  refine lv_icmp_gt (tgt := 122) C.1.1 C.1.2.1 dX12_isAsSeen_44 (by decide) (fun h_z => ?_) (fun h_z => ?_)
  · rw [if_pos h_z] at hF
    exact bX12_isAsSeen_122 C O X (lv_sub hl [0, 2] rfl) hF
  · rw [if_neg h_z] at hF
    exact bX12_isAsSeen_47 C O K42 X (lv_sub hl [0, 1, 2, 3] rfl) hF
noncomputable def fX12_isAsSeen_h42 (N : Nat) : Nat → Int32 → Int32 → Int32 → gS → Option (Int32 × gS)
  | 0, _, _, _, _ => none
  | n + 1, x1, x2, x3, S => fX12_isAsSeen_b42 N (fX12_isAsSeen_h42 N n) x1 x2 x3 S
theorem hX12_isAsSeen_42 {N : Nat} {o : Int32 × gS} (C : gC p s m args meth c cX12_isAsSeen 5 RX12 ((some .boolean)) D (mtys cI cS) mord g Am) (O : gO (mcell g cI cS sa) mord g) : ∀ (n : Nat) (x1 : Int32) (x2 : Int32) (x3 : Int32) (S : gS) (H : Heap) (locs : List Loc) (ls : Array Slot), gX D (mcell g cI cS sa) mord g S s H locs → lv_has ls 5 [(0, .ref (g 99)), (1, .int x1), (2, .int x2), (3, .int x3)] → fX12_isAsSeen_h42 N n x1 x2 x3 S = some o → W p l e (rmd 6) s m args below meth c H locs 0 0 (gE below args s D (mtys cI cS) (mcell g cI cS sa) mord g (some (.int o.1)) o.2) (F0 m 42 ls []) := by
  intro n
  induction n with
  | zero =>
    intro x1 x2 x3 S H locs ls X hl hF
    exact absurd (show (none : Option (Int32 × gS)) = some o from hF) (by simp)
  | succ n ih =>
    intro x1 x2 x3 S H locs ls X hl hF
    have hF : fX12_isAsSeen_b42 N (fX12_isAsSeen_h42 N n) x1 x2 x3 S = some o := hF
    exact bX12_isAsSeen_42 C O ih X hl hF
noncomputable def fX12_isAsSeen_b38 (N : Nat) (x1 : Int32) (S : gS) : Option (Int32 × gS) := fX12_isAsSeen_h42 N N x1 1 0 S
theorem bX12_isAsSeen_38 {N : Nat} {x1 : Int32} {S : gS} {H : Heap} {locs : List Loc} {ls : Array Slot} {o : Int32 × gS} (C : gC p s m args meth c cX12_isAsSeen 5 RX12 ((some .boolean)) D (mtys cI cS) mord g Am) (O : gO (mcell g cI cS sa) mord g) (X : gX D (mcell g cI cS sa) mord g S s H locs) (hl : lv_has ls 5 [(0, .ref (g 99)), (1, .int x1)]) (hF : fX12_isAsSeen_b38 N x1 S = some o) : W p l e (rmd 6) s m args below meth c H locs 0 0 (gE below args s D (mtys cI cS) (mcell g cI cS sa) mord g (some (.int o.1)) o.2) (F0 m 38 ls []) := by
  unfold fX12_isAsSeen_b38 at hF
  refine lv_iconst (v := 1) C.1.1 C.1.2.1 dX12_isAsSeen_38 (by decide) ?_
  refine lv_istore_n (lv' := [(2, .int 1), (0, .ref (g 99)), (1, .int x1)]) C.1.1 C.1.2.1 dX12_isAsSeen_39 rfl hl (by decide) rfl (fun ls hl => ?_)
  refine lv_iconst (v := 0) C.1.1 C.1.2.1 dX12_isAsSeen_40 (by decide) ?_
  refine lv_istore_n (lv' := [(3, .int 0), (2, .int 1), (0, .ref (g 99)), (1, .int x1)]) C.1.1 C.1.2.1 dX12_isAsSeen_41 rfl hl (by decide) rfl (fun ls hl => ?_)
  exact hX12_isAsSeen_42 C O N _ _ _ _ _ _ _ X (lv_sub hl [2, 3, 1, 0] rfl) hF
noncomputable def fX12_isAsSeen_b21 (N : Nat) (r13 : Int32 → Int32 → gS → Option (Int32 × gS)) (x1 : Int32) (x2 : Int32) (S : gS) : Option (Int32 × gS) := chk (inb x2 (8)) (r13 (if x1 < (S 49 (Int32.toNatClampNeg x2)) then (S 49 (Int32.toNatClampNeg x2)) else x1) ((x2 + 1 : Int32)) S)
theorem bX12_isAsSeen_21 {N : Nat} {r13 : Int32 → Int32 → gS → Option (Int32 × gS)} {x1 : Int32} {x2 : Int32} {S : gS} {H : Heap} {locs : List Loc} {ls : Array Slot} {o : Int32 × gS} (C : gC p s m args meth c cX12_isAsSeen 5 RX12 ((some .boolean)) D (mtys cI cS) mord g Am) (O : gO (mcell g cI cS sa) mord g) (K13 : ∀ (x1 : Int32) (x2 : Int32) (S : gS) (H : Heap) (locs : List Loc) (ls : Array Slot), gX D (mcell g cI cS sa) mord g S s H locs → lv_has ls 5 [(0, .ref (g 99)), (1, .int x1), (2, .int x2)] → r13 x1 x2 S = some o → W p l e (rmd 6) s m args below meth c H locs 0 0 (gE below args s D (mtys cI cS) (mcell g cI cS sa) mord g (some (.int o.1)) o.2) (F0 m 13 ls [])) (X : gX D (mcell g cI cS sa) mord g S s H locs) (hl : lv_has ls 5 [(0, .ref (g 99)), (1, .int x1), (2, .int x2)]) (hF : fX12_isAsSeen_b21 N r13 x1 x2 S = some o) : W p l e (rmd 6) s m args below meth c H locs 0 0 (gE below args s D (mtys cI cS) (mcell g cI cS sa) mord g (some (.int o.1)) o.2) (F0 m 21 ls []) := by
  unfold fX12_isAsSeen_b21 at hF
  refine lv_iload_n C.1.1 C.1.2.1 dX12_isAsSeen_21 rfl (lv_at hl 1 rfl) ?_
  refine lv_aload_n C.1.1 C.1.2.1 dX12_isAsSeen_22 rfl (lv_at hl 0 rfl) ?_
  refine m_g49 C X dX12_isAsSeen_23 ?_
  refine lv_iload_n C.1.1 C.1.2.1 dX12_isAsSeen_26 rfl (lv_at hl 2 rfl) ?_
  obtain ⟨h_1, hF⟩ := chk_some hF
  refine m_r49 C X  (inb_vp h_1) rfl dX12_isAsSeen_27 ?_
  refine g_max C hl.1 mMmax354 ⟨Nat.le_of_ble_eq_true rfl, Nat.le_of_ble_eq_true rfl⟩ (Nat.le_of_ble_eq_true rfl) (Nat.le_of_ble_eq_true rfl) dX12_isAsSeen_28 ?_
  refine lv_istore_n (lv' := [(1, .int (if x1 < (S 49 (Int32.toNatClampNeg x2)) then (S 49 (Int32.toNatClampNeg x2)) else x1)), (0, .ref (g 99)), (2, .int x2)]) C.1.1 C.1.2.1 dX12_isAsSeen_31 rfl hl (by decide) rfl (fun ls hl => ?_)
  refine lv_iinc (v := (x2 + 1 : Int32)) (lv' := [(2, .int ((x2 + 1 : Int32))), (1, .int (if x1 < (S 49 (Int32.toNatClampNeg x2)) then (S 49 (Int32.toNatClampNeg x2)) else x1)), (0, .ref (g 99))]) C.1.1 C.1.2.1 dX12_isAsSeen_32 hl (k := 2) rfl rfl (by decide) rfl (fun ls hl => ?_)
  refine lv_goto (tgt := 13) C.1.1 C.1.2.1 dX12_isAsSeen_35 (by decide) ?_
  exact K13 _ _ _ _ _ _ X (lv_sub hl [2, 1, 0] rfl) hF
noncomputable def fX12_isAsSeen_b13 (N : Nat) (r13 : Int32 → Int32 → gS → Option (Int32 × gS)) (x1 : Int32) (x2 : Int32) (S : gS) : Option (Int32 × gS) := if (S 99 40) ≤ x2 then fX12_isAsSeen_b38 N x1 S else fX12_isAsSeen_b21 N r13 x1 x2 S
theorem bX12_isAsSeen_13 {N : Nat} {r13 : Int32 → Int32 → gS → Option (Int32 × gS)} {x1 : Int32} {x2 : Int32} {S : gS} {H : Heap} {locs : List Loc} {ls : Array Slot} {o : Int32 × gS} (C : gC p s m args meth c cX12_isAsSeen 5 RX12 ((some .boolean)) D (mtys cI cS) mord g Am) (O : gO (mcell g cI cS sa) mord g) (K13 : ∀ (x1 : Int32) (x2 : Int32) (S : gS) (H : Heap) (locs : List Loc) (ls : Array Slot), gX D (mcell g cI cS sa) mord g S s H locs → lv_has ls 5 [(0, .ref (g 99)), (1, .int x1), (2, .int x2)] → r13 x1 x2 S = some o → W p l e (rmd 6) s m args below meth c H locs 0 0 (gE below args s D (mtys cI cS) (mcell g cI cS sa) mord g (some (.int o.1)) o.2) (F0 m 13 ls [])) (X : gX D (mcell g cI cS sa) mord g S s H locs) (hl : lv_has ls 5 [(0, .ref (g 99)), (1, .int x1), (2, .int x2)]) (hF : fX12_isAsSeen_b13 N r13 x1 x2 S = some o) : W p l e (rmd 6) s m args below meth c H locs 0 0 (gE below args s D (mtys cI cS) (mcell g cI cS sa) mord g (some (.int o.1)) o.2) (F0 m 13 ls []) := by
  unfold fX12_isAsSeen_b13 at hF
  refine lv_iload_n C.1.1 C.1.2.1 dX12_isAsSeen_13 rfl (lv_at hl 2 rfl) ?_
  refine lv_aload_n C.1.1 C.1.2.1 dX12_isAsSeen_14 rfl (lv_at hl 0 rfl) ?_
  refine m_g40 C X dX12_isAsSeen_15 ?_
  refine lv_icmp_ge (tgt := 38) C.1.1 C.1.2.1 dX12_isAsSeen_18 (by decide) (fun h_z => ?_) (fun h_z => ?_)
  · rw [if_pos h_z] at hF
    exact bX12_isAsSeen_38 C O X (lv_sub hl [0, 1] rfl) hF
  · rw [if_neg h_z] at hF
    exact bX12_isAsSeen_21 C O K13 X (lv_sub hl [0, 1, 2] rfl) hF
noncomputable def fX12_isAsSeen_h13 (N : Nat) : Nat → Int32 → Int32 → gS → Option (Int32 × gS)
  | 0, _, _, _ => none
  | n + 1, x1, x2, S => fX12_isAsSeen_b13 N (fX12_isAsSeen_h13 N n) x1 x2 S
theorem hX12_isAsSeen_13 {N : Nat} {o : Int32 × gS} (C : gC p s m args meth c cX12_isAsSeen 5 RX12 ((some .boolean)) D (mtys cI cS) mord g Am) (O : gO (mcell g cI cS sa) mord g) : ∀ (n : Nat) (x1 : Int32) (x2 : Int32) (S : gS) (H : Heap) (locs : List Loc) (ls : Array Slot), gX D (mcell g cI cS sa) mord g S s H locs → lv_has ls 5 [(0, .ref (g 99)), (1, .int x1), (2, .int x2)] → fX12_isAsSeen_h13 N n x1 x2 S = some o → W p l e (rmd 6) s m args below meth c H locs 0 0 (gE below args s D (mtys cI cS) (mcell g cI cS sa) mord g (some (.int o.1)) o.2) (F0 m 13 ls []) := by
  intro n
  induction n with
  | zero =>
    intro x1 x2 S H locs ls X hl hF
    exact absurd (show (none : Option (Int32 × gS)) = some o from hF) (by simp)
  | succ n ih =>
    intro x1 x2 S H locs ls X hl hF
    have hF : fX12_isAsSeen_b13 N (fX12_isAsSeen_h13 N n) x1 x2 S = some o := hF
    exact bX12_isAsSeen_13 C O ih X hl hF
noncomputable def fX12_isAsSeen_b0 (N : Nat) (S : gS) : Option (Int32 × gS) := bnd (fX12_pack N 51 0 S) fun q1 => (fX12_isAsSeen_h13 N N 0 0 q1.2)
theorem bX12_isAsSeen_0 {N : Nat} {S : gS} {H : Heap} {locs : List Loc} {ls : Array Slot} {o : Int32 × gS} (C : gC p s m args meth c cX12_isAsSeen 5 RX12 ((some .boolean)) D (mtys cI cS) mord g Am) (O : gO (mcell g cI cS sa) mord g) (X : gX D (mcell g cI cS sa) mord g S s H locs) (hl : lv_has ls 5 [(0, .ref (g 99))]) (hF : fX12_isAsSeen_b0 N S = some o) : W p l e (rmd 6) s m args below meth c H locs 0 0 (gE below args s D (mtys cI cS) (mcell g cI cS sa) mord g (some (.int o.1)) o.2) (F0 m 0 ls []) := by
  unfold fX12_isAsSeen_b0 at hF
  refine lv_aload_n C.1.1 C.1.2.1 dX12_isAsSeen_0 rfl (lv_at hl 0 rfl) ?_
  refine lv_aload_n C.1.1 C.1.2.1 dX12_isAsSeen_1 rfl (lv_at hl 0 rfl) ?_
  refine m_g51 C X dX12_isAsSeen_2 ?_
  refine lv_iconst (v := 0) C.1.1 C.1.2.1 dX12_isAsSeen_5 (by decide) ?_
  obtain ⟨q1, hq1, hF⟩ := bnd_some hF
  refine m_callV C X vX12_pack rfl (kX12_pack O C.2.2.2.2.1 N 51 0 (rfl : mI 51 = true) S q1 hq1) (Nat.le_of_ble_eq_true rfl) (Nat.le_of_ble_eq_true rfl) (Nat.le_of_ble_eq_true rfl) (Nat.le_of_ble_eq_true rfl) rfl hl.1 rfl (Nat.le_of_ble_eq_true rfl) dX12_isAsSeen_6 (fun H locs X => ?_)
  refine lv_iconst (v := 0) C.1.1 C.1.2.1 dX12_isAsSeen_9 (by decide) ?_
  refine lv_istore_n (lv' := [(1, .int 0), (0, .ref (g 99))]) C.1.1 C.1.2.1 dX12_isAsSeen_10 rfl hl (by decide) rfl (fun ls hl => ?_)
  refine lv_iconst (v := 0) C.1.1 C.1.2.1 dX12_isAsSeen_11 (by decide) ?_
  refine lv_istore_n (lv' := [(2, .int 0), (1, .int 0), (0, .ref (g 99))]) C.1.1 C.1.2.1 dX12_isAsSeen_12 rfl hl (by decide) rfl (fun ls hl => ?_)
  exact hX12_isAsSeen_13 C O N _ _ _ _ _ _ X (lv_sub hl [2, 1, 0] rfl) hF
noncomputable def fX12_isAsSeen (N : Nat) (S : gS) : Option (Int32 × gS) := fX12_isAsSeen_b0 N S
theorem kX12_isAsSeen {l : Launch} {D : va_G} {g : Nat → Nat} {cI cS : ClassId} {sa : Nat → Nat → Option Nat} {Am : (Nat → Prop) → State → Heap → Prop} (O : gO (mcell g cI cS sa) mord g) (P : gAm Am) (N : Nat) (S : gS) (o : Int32 × gS) (hF : fX12_isAsSeen N S = some o) : gM l yX12_isAsSeen cX12_isAsSeen 5 ((some .boolean)) 6 D (mtys cI cS) (mcell g cI cS sa) mord g Am [.ref (g 99)] S (some (.int o.1)) o.2 :=
  gM_of O P (by decide) (Nat.le_of_ble_eq_true rfl) (fun p e s m args below meth c ls C X hl => bX12_isAsSeen_0 C O X (lv_sub hl [0] rfl) hF)
end
end
