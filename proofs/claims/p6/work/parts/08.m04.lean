/-! the reference's methods as maps of states, and their walks (printed by wip/whole/mkm.py) -/
section
variable {p : Program} {l : Launch} {e : Env} {s : State} {m : MethodId} {args : Array Value} {below : List Frame} {meth : Method} {c : Code} {D : va_G} {g : Nat → Nat} {cI cS : ClassId} {sa : Nat → Nat → Option Nat} {Am : (Nat → Prop) → State → Heap → Prop}
-- keep
noncomputable def fX12_keep_b52 (N : Nat) (S : gS) : Option (Int32 × gS) := bnd (fX12_pack N 36 ((26 * (S 99 39) : Int32)) S) fun q1 => (lt (sU q1.2 99 39 (((q1.2 99 39) + 1 : Int32))) fun S2 => (some (0, S2)))
theorem bX12_keep_52 {N : Nat} {S : gS} {H : Heap} {locs : List Loc} {ls : Array Slot} {o : Int32 × gS} (C : gC p s m args meth c cX12_keep 2 RX12 none D (mtys cI cS) mord g Am) (O : gO (mcell g cI cS sa) mord g) (X : gX D (mcell g cI cS sa) mord g S s H locs) (hl : lv_has ls 2 [(0, .ref (g 99))]) (hF : fX12_keep_b52 N S = some o) : W p l e (rmd 1) s m args below meth c H locs 0 0 (gE below args s D (mtys cI cS) (mcell g cI cS sa) mord g none o.2) (F0 m 52 ls []) := by
  unfold fX12_keep_b52 at hF
  refine lv_aload_n C.1.1 C.1.2.1 dX12_keep_52 rfl (lv_at hl 0 rfl) ?_
  refine lv_aload_n C.1.1 C.1.2.1 dX12_keep_53 rfl (lv_at hl 0 rfl) ?_
  refine m_g36 C X dX12_keep_54 ?_
  refine lv_bipush (v := 26) C.1.1 C.1.2.1 dX12_keep_57 (by decide) ?_
  refine lv_aload_n C.1.1 C.1.2.1 dX12_keep_59 rfl (lv_at hl 0 rfl) ?_
  refine m_g39 C X dX12_keep_60 ?_
  refine lv_imul C.1.1 C.1.2.1 dX12_keep_63 ?_
  obtain ⟨q1, hq1, hF⟩ := bnd_some hF
  refine m_callV C X vX12_pack rfl (kX12_pack O C.2.2.2.2.1 N 36 ((26 * (S 99 39) : Int32)) (rfl : mI 36 = true) S q1 hq1) (Nat.le_of_ble_eq_true rfl) (Nat.le_of_ble_eq_true rfl) (Nat.le_of_ble_eq_true rfl) (Nat.le_of_ble_eq_true rfl) rfl hl.1 rfl (Nat.le_of_ble_eq_true rfl) dX12_keep_64 (fun H locs X => ?_)
  refine lv_aload_n C.1.1 C.1.2.1 dX12_keep_67 rfl (lv_at hl 0 rfl) ?_
  refine lv_dup C.1.1 C.1.2.1 dX12_keep_68 rfl ?_
  refine m_g39 C X dX12_keep_69 ?_
  refine lv_iconst (v := 1) C.1.1 C.1.2.1 dX12_keep_72 (by decide) ?_
  refine lv_iadd C.1.1 C.1.2.1 dX12_keep_73 ?_
  obtain ⟨S2, eS2, hF⟩ := lt_some hF
  refine m_p39 C O X eS2 dX12_keep_74 (fun H locs X => ?_)
  cases hF
  exact g_vret C X dX12_keep_77
noncomputable def fX12_keep_b42 (N : Nat) (S : gS) : Option (Int32 × gS) := lt (sU S 99 39 (((S 99 39) - 1 : Int32))) fun S1 => (fX12_keep_b52 N S1)
theorem bX12_keep_42 {N : Nat} {S : gS} {H : Heap} {locs : List Loc} {ls : Array Slot} {o : Int32 × gS} (C : gC p s m args meth c cX12_keep 2 RX12 none D (mtys cI cS) mord g Am) (O : gO (mcell g cI cS sa) mord g) (X : gX D (mcell g cI cS sa) mord g S s H locs) (hl : lv_has ls 2 [(0, .ref (g 99))]) (hF : fX12_keep_b42 N S = some o) : W p l e (rmd 1) s m args below meth c H locs 0 0 (gE below args s D (mtys cI cS) (mcell g cI cS sa) mord g none o.2) (F0 m 42 ls []) := by
  unfold fX12_keep_b42 at hF
  refine lv_aload_n C.1.1 C.1.2.1 dX12_keep_42 rfl (lv_at hl 0 rfl) ?_
  refine lv_dup C.1.1 C.1.2.1 dX12_keep_43 rfl ?_
  refine m_g39 C X dX12_keep_44 ?_
  refine lv_iconst (v := 1) C.1.1 C.1.2.1 dX12_keep_47 (by decide) ?_
  refine lv_isub C.1.1 C.1.2.1 dX12_keep_48 ?_
  obtain ⟨S1, eS1, hF⟩ := lt_some hF
  refine m_p39 C O X eS1 dX12_keep_49 (fun H locs X => ?_)
  exact bX12_keep_52 C O X (lv_sub hl [0] rfl) hF
noncomputable def fX12_keep_b21 (N : Nat) (r12 : Int32 → gS → Option (Int32 × gS)) (x1 : Int32) (S : gS) : Option (Int32 × gS) := chk (inb x1 (1040)) (chk (inb ((x1 - 26 : Int32)) (1040)) (lt (sU S 36 (Int32.toNatClampNeg ((x1 - 26 : Int32))) (S 36 (Int32.toNatClampNeg x1))) fun S1 => (r12 ((x1 + 1 : Int32)) S1)))
theorem bX12_keep_21 {N : Nat} {r12 : Int32 → gS → Option (Int32 × gS)} {x1 : Int32} {S : gS} {H : Heap} {locs : List Loc} {ls : Array Slot} {o : Int32 × gS} (C : gC p s m args meth c cX12_keep 2 RX12 none D (mtys cI cS) mord g Am) (O : gO (mcell g cI cS sa) mord g) (K12 : ∀ (x1 : Int32) (S : gS) (H : Heap) (locs : List Loc) (ls : Array Slot), gX D (mcell g cI cS sa) mord g S s H locs → lv_has ls 2 [(0, .ref (g 99)), (1, .int x1)] → r12 x1 S = some o → W p l e (rmd 1) s m args below meth c H locs 0 0 (gE below args s D (mtys cI cS) (mcell g cI cS sa) mord g none o.2) (F0 m 12 ls [])) (X : gX D (mcell g cI cS sa) mord g S s H locs) (hl : lv_has ls 2 [(0, .ref (g 99)), (1, .int x1)]) (hF : fX12_keep_b21 N r12 x1 S = some o) : W p l e (rmd 1) s m args below meth c H locs 0 0 (gE below args s D (mtys cI cS) (mcell g cI cS sa) mord g none o.2) (F0 m 21 ls []) := by
  unfold fX12_keep_b21 at hF
  refine lv_aload_n C.1.1 C.1.2.1 dX12_keep_21 rfl (lv_at hl 0 rfl) ?_
  refine m_g36 C X dX12_keep_22 ?_
  refine lv_iload_n C.1.1 C.1.2.1 dX12_keep_25 rfl (lv_at hl 1 rfl) ?_
  refine lv_bipush (v := 26) C.1.1 C.1.2.1 dX12_keep_26 (by decide) ?_
  refine lv_isub C.1.1 C.1.2.1 dX12_keep_28 ?_
  refine lv_aload_n C.1.1 C.1.2.1 dX12_keep_29 rfl (lv_at hl 0 rfl) ?_
  refine m_g36 C X dX12_keep_30 ?_
  refine lv_iload_n C.1.1 C.1.2.1 dX12_keep_33 rfl (lv_at hl 1 rfl) ?_
  obtain ⟨h_1, hF⟩ := chk_some hF
  refine m_r36 C X  (inb_vp h_1) rfl dX12_keep_34 ?_
  obtain ⟨h_2, hF⟩ := chk_some hF
  obtain ⟨S1, eS1, hF⟩ := lt_some hF
  refine m_w36 C O X  (inb_vp h_2) rfl eS1 dX12_keep_35 (fun H locs X => ?_)
  refine lv_iinc (v := (x1 + 1 : Int32)) (lv' := [(1, .int ((x1 + 1 : Int32))), (0, .ref (g 99))]) C.1.1 C.1.2.1 dX12_keep_36 hl (k := 1) rfl rfl (by decide) rfl (fun ls hl => ?_)
  refine lv_goto (tgt := 12) C.1.1 C.1.2.1 dX12_keep_39 (by decide) ?_
  exact K12 _ _ _ _ _ X (lv_sub hl [1, 0] rfl) hF
noncomputable def fX12_keep_b12 (N : Nat) (r12 : Int32 → gS → Option (Int32 × gS)) (x1 : Int32) (S : gS) : Option (Int32 × gS) := if 1040 ≤ x1 then fX12_keep_b42 N S else fX12_keep_b21 N r12 x1 S
theorem bX12_keep_12 {N : Nat} {r12 : Int32 → gS → Option (Int32 × gS)} {x1 : Int32} {S : gS} {H : Heap} {locs : List Loc} {ls : Array Slot} {o : Int32 × gS} (C : gC p s m args meth c cX12_keep 2 RX12 none D (mtys cI cS) mord g Am) (O : gO (mcell g cI cS sa) mord g) (K12 : ∀ (x1 : Int32) (S : gS) (H : Heap) (locs : List Loc) (ls : Array Slot), gX D (mcell g cI cS sa) mord g S s H locs → lv_has ls 2 [(0, .ref (g 99)), (1, .int x1)] → r12 x1 S = some o → W p l e (rmd 1) s m args below meth c H locs 0 0 (gE below args s D (mtys cI cS) (mcell g cI cS sa) mord g none o.2) (F0 m 12 ls [])) (X : gX D (mcell g cI cS sa) mord g S s H locs) (hl : lv_has ls 2 [(0, .ref (g 99)), (1, .int x1)]) (hF : fX12_keep_b12 N r12 x1 S = some o) : W p l e (rmd 1) s m args below meth c H locs 0 0 (gE below args s D (mtys cI cS) (mcell g cI cS sa) mord g none o.2) (F0 m 12 ls []) := by
  unfold fX12_keep_b12 at hF
  refine lv_iload_n C.1.1 C.1.2.1 dX12_keep_12 rfl (lv_at hl 1 rfl) ?_
  refine lv_aload_n C.1.1 C.1.2.1 dX12_keep_13 rfl (lv_at hl 0 rfl) ?_
  refine m_g36 C X dX12_keep_14 ?_
  refine m_lv C X (k := 36) rfl (x := 1040) (by decide) dX12_keep_17 ?_
  refine lv_icmp_ge (tgt := 42) C.1.1 C.1.2.1 dX12_keep_18 (by decide) (fun h_z => ?_) (fun h_z => ?_)
  · rw [if_pos h_z] at hF
    exact bX12_keep_42 C O X (lv_sub hl [0] rfl) hF
  · rw [if_neg h_z] at hF
    exact bX12_keep_21 C O K12 X (lv_sub hl [0, 1] rfl) hF
noncomputable def fX12_keep_h12 (N : Nat) : Nat → Int32 → gS → Option (Int32 × gS)
  | 0, _, _ => none
  | n + 1, x1, S => fX12_keep_b12 N (fX12_keep_h12 N n) x1 S
theorem hX12_keep_12 {N : Nat} {o : Int32 × gS} (C : gC p s m args meth c cX12_keep 2 RX12 none D (mtys cI cS) mord g Am) (O : gO (mcell g cI cS sa) mord g) : ∀ (n : Nat) (x1 : Int32) (S : gS) (H : Heap) (locs : List Loc) (ls : Array Slot), gX D (mcell g cI cS sa) mord g S s H locs → lv_has ls 2 [(0, .ref (g 99)), (1, .int x1)] → fX12_keep_h12 N n x1 S = some o → W p l e (rmd 1) s m args below meth c H locs 0 0 (gE below args s D (mtys cI cS) (mcell g cI cS sa) mord g none o.2) (F0 m 12 ls []) := by
  intro n
  induction n with
  | zero =>
    intro x1 S H locs ls X hl hF
    exact absurd (show (none : Option (Int32 × gS)) = some o from hF) (by simp)
  | succ n ih =>
    intro x1 S H locs ls X hl hF
    have hF : fX12_keep_b12 N (fX12_keep_h12 N n) x1 S = some o := hF
    exact bX12_keep_12 C O ih X hl hF
noncomputable def fX12_keep_b9 (N : Nat) (S : gS) : Option (Int32 × gS) := fX12_keep_h12 N N 26 S
theorem bX12_keep_9 {N : Nat} {S : gS} {H : Heap} {locs : List Loc} {ls : Array Slot} {o : Int32 × gS} (C : gC p s m args meth c cX12_keep 2 RX12 none D (mtys cI cS) mord g Am) (O : gO (mcell g cI cS sa) mord g) (X : gX D (mcell g cI cS sa) mord g S s H locs) (hl : lv_has ls 2 [(0, .ref (g 99))]) (hF : fX12_keep_b9 N S = some o) : W p l e (rmd 1) s m args below meth c H locs 0 0 (gE below args s D (mtys cI cS) (mcell g cI cS sa) mord g none o.2) (F0 m 9 ls []) := by
  unfold fX12_keep_b9 at hF
  refine lv_bipush (v := 26) C.1.1 C.1.2.1 dX12_keep_9 (by decide) ?_
  refine lv_istore_n (lv' := [(1, .int 26), (0, .ref (g 99))]) C.1.1 C.1.2.1 dX12_keep_11 rfl hl (by decide) rfl (fun ls hl => ?_)
  exact hX12_keep_12 C O N _ _ _ _ _ X (lv_sub hl [1, 0] rfl) hF
noncomputable def fX12_keep_b0 (N : Nat) (S : gS) : Option (Int32 × gS) := if (S 99 39) = 40 then fX12_keep_b9 N S else fX12_keep_b52 N S
theorem bX12_keep_0 {N : Nat} {S : gS} {H : Heap} {locs : List Loc} {ls : Array Slot} {o : Int32 × gS} (C : gC p s m args meth c cX12_keep 2 RX12 none D (mtys cI cS) mord g Am) (O : gO (mcell g cI cS sa) mord g) (X : gX D (mcell g cI cS sa) mord g S s H locs) (hl : lv_has ls 2 [(0, .ref (g 99))]) (hF : fX12_keep_b0 N S = some o) : W p l e (rmd 1) s m args below meth c H locs 0 0 (gE below args s D (mtys cI cS) (mcell g cI cS sa) mord g none o.2) (F0 m 0 ls []) := by
  unfold fX12_keep_b0 at hF
  refine lv_aload_n C.1.1 C.1.2.1 dX12_keep_0 rfl (lv_at hl 0 rfl) ?_
  refine m_g39 C X dX12_keep_1 ?_
  refine lv_bipush (v := 40) C.1.1 C.1.2.1 dX12_keep_4 (by decide) ?_
  refine lv_icmp_ne (tgt := 52) C.1.1 C.1.2.1 dX12_keep_6 (by decide) (fun h_z => ?_) (fun h_z => ?_)
  · rw [if_neg h_z] at hF
    exact bX12_keep_52 C O X (lv_sub hl [0] rfl) hF
  · rw [if_pos h_z] at hF
    exact bX12_keep_9 C O X (lv_sub hl [0] rfl) hF
noncomputable def fX12_keep (N : Nat) (S : gS) : Option (Int32 × gS) := fX12_keep_b0 N S
theorem kX12_keep {l : Launch} {D : va_G} {g : Nat → Nat} {cI cS : ClassId} {sa : Nat → Nat → Option Nat} {Am : (Nat → Prop) → State → Heap → Prop} (O : gO (mcell g cI cS sa) mord g) (P : gAm Am) (N : Nat) (S : gS) (o : Int32 × gS) (hF : fX12_keep N S = some o) : gM l yX12_keep cX12_keep 2 none 1 D (mtys cI cS) (mcell g cI cS sa) mord g Am [.ref (g 99)] S none o.2 :=
  gM_of O P (by decide) (Nat.le_of_ble_eq_true rfl) (fun p e s m args below meth c ls C X hl => bX12_keep_0 C O X (lv_sub hl [0] rfl) hF)
-- hours
noncomputable def fX12_hours_b35 (N : Nat) (x1 : Int32) (S : gS) : Option (Int32 × gS) := bnd (fX12_keep N  S) fun q1 => (bnd (fX12_goOn N x1 q1.2) fun q2 => (some (q2.2 99 37, q2.2)))
theorem bX12_hours_35 {N : Nat} {x1 : Int32} {S : gS} {H : Heap} {locs : List Loc} {ls : Array Slot} {o : Int32 × gS} (C : gC p s m args meth c cX12_hours 2 RX12 ((some .int)) D (mtys cI cS) mord g Am) (O : gO (mcell g cI cS sa) mord g) (X : gX D (mcell g cI cS sa) mord g S s H locs) (hl : lv_has ls 2 [(0, .ref (g 99)), (1, .int x1)]) (hF : fX12_hours_b35 N x1 S = some o) : W p l e (rmd 7) s m args below meth c H locs 0 0 (gE below args s D (mtys cI cS) (mcell g cI cS sa) mord g (some (.int o.1)) o.2) (F0 m 35 ls []) := by
  unfold fX12_hours_b35 at hF
  refine lv_aload_n C.1.1 C.1.2.1 dX12_hours_35 rfl (lv_at hl 0 rfl) ?_
  obtain ⟨q1, hq1, hF⟩ := bnd_some hF
  refine m_callV C X vX12_keep rfl (kX12_keep O C.2.2.2.2.1 N   S q1 hq1) (Nat.le_of_ble_eq_true rfl) (Nat.le_of_ble_eq_true rfl) (Nat.le_of_ble_eq_true rfl) (Nat.le_of_ble_eq_true rfl) rfl hl.1 rfl (Nat.le_of_ble_eq_true rfl) dX12_hours_36 (fun H locs X => ?_)
  refine lv_aload_n C.1.1 C.1.2.1 dX12_hours_39 rfl (lv_at hl 0 rfl) ?_
  refine lv_iload_n C.1.1 C.1.2.1 dX12_hours_40 rfl (lv_at hl 1 rfl) ?_
  obtain ⟨q2, hq2, hF⟩ := bnd_some hF
  refine m_callV C X vX12_goOn rfl (kX12_goOn O C.2.2.2.2.1 N x1  q1.2 q2 hq2) (Nat.le_of_ble_eq_true rfl) (Nat.le_of_ble_eq_true rfl) (Nat.le_of_ble_eq_true rfl) (Nat.le_of_ble_eq_true rfl) rfl hl.1 rfl (Nat.le_of_ble_eq_true rfl) dX12_hours_41 (fun H locs X => ?_)
  refine lv_aload_n C.1.1 C.1.2.1 dX12_hours_44 rfl (lv_at hl 0 rfl) ?_
  refine m_g37 C X dX12_hours_45 ?_
  cases hF
  exact g_iret C X dX12_hours_48
noncomputable def fX12_hours_b29 (N : Nat) (S : gS) : Option (Int32 × gS) := bnd (fX12_refuse N 1 S) fun q1 => (some (q1.1, q1.2))
theorem bX12_hours_29 {N : Nat} {S : gS} {H : Heap} {locs : List Loc} {ls : Array Slot} {o : Int32 × gS} (C : gC p s m args meth c cX12_hours 2 RX12 ((some .int)) D (mtys cI cS) mord g Am) (O : gO (mcell g cI cS sa) mord g) (X : gX D (mcell g cI cS sa) mord g S s H locs) (hl : lv_has ls 2 [(0, .ref (g 99))]) (hF : fX12_hours_b29 N S = some o) : W p l e (rmd 7) s m args below meth c H locs 0 0 (gE below args s D (mtys cI cS) (mcell g cI cS sa) mord g (some (.int o.1)) o.2) (F0 m 29 ls []) := by
  unfold fX12_hours_b29 at hF
  refine lv_aload_n C.1.1 C.1.2.1 dX12_hours_29 rfl (lv_at hl 0 rfl) ?_
  refine lv_iconst (v := 1) C.1.1 C.1.2.1 dX12_hours_30 (by decide) ?_
  obtain ⟨q1, hq1, hF⟩ := bnd_some hF
  refine m_callVi C X vX12_refuse rfl (kX12_refuse O C.2.2.2.2.1 N 1  S q1 hq1) (Nat.le_of_ble_eq_true rfl) (Nat.le_of_ble_eq_true rfl) (Nat.le_of_ble_eq_true rfl) (Nat.le_of_ble_eq_true rfl) rfl hl.1 rfl (Nat.le_of_ble_eq_true rfl) dX12_hours_31 (fun H locs X => ?_)
  cases hF
  exact g_iret C X dX12_hours_34
noncomputable def fX12_hours_b17 (N : Nat) (x1 : Int32) (S : gS) : Option (Int32 × gS) := if (((S 99 37) + x1 : Int32)) ≤ 999 then fX12_hours_b35 N x1 S else fX12_hours_b29 N S
theorem bX12_hours_17 {N : Nat} {x1 : Int32} {S : gS} {H : Heap} {locs : List Loc} {ls : Array Slot} {o : Int32 × gS} (C : gC p s m args meth c cX12_hours 2 RX12 ((some .int)) D (mtys cI cS) mord g Am) (O : gO (mcell g cI cS sa) mord g) (X : gX D (mcell g cI cS sa) mord g S s H locs) (hl : lv_has ls 2 [(0, .ref (g 99)), (1, .int x1)]) (hF : fX12_hours_b17 N x1 S = some o) : W p l e (rmd 7) s m args below meth c H locs 0 0 (gE below args s D (mtys cI cS) (mcell g cI cS sa) mord g (some (.int o.1)) o.2) (F0 m 17 ls []) := by
  unfold fX12_hours_b17 at hF
  refine lv_aload_n C.1.1 C.1.2.1 dX12_hours_17 rfl (lv_at hl 0 rfl) ?_
  refine m_g37 C X dX12_hours_18 ?_
  refine lv_iload_n C.1.1 C.1.2.1 dX12_hours_21 rfl (lv_at hl 1 rfl) ?_
  refine lv_iadd C.1.1 C.1.2.1 dX12_hours_22 ?_
  refine lv_sipush (v := 999) C.1.1 C.1.2.1 dX12_hours_23 (by decide) ?_
  refine lv_icmp_le (tgt := 35) C.1.1 C.1.2.1 dX12_hours_26 (by decide) (fun h_z => ?_) (fun h_z => ?_)
  · rw [if_pos h_z] at hF
    exact bX12_hours_35 C O X (lv_sub hl [0, 1] rfl) hF
  · rw [if_neg h_z] at hF
    exact bX12_hours_29 C O X (lv_sub hl [0] rfl) hF
noncomputable def fX12_hours_b0 (N : Nat) (x1 : Int32) (S : gS) : Option (Int32 × gS) := lt (sU S 99 4 0) fun S1 => (bnd (fX12_isIn N (Int32.toInt64 x1) 1 20 S1) fun q1 => (if q1.1 = 0 then fX12_hours_b29 N q1.2 else fX12_hours_b17 N x1 q1.2))
theorem bX12_hours_0 {N : Nat} {x1 : Int32} {S : gS} {H : Heap} {locs : List Loc} {ls : Array Slot} {o : Int32 × gS} (C : gC p s m args meth c cX12_hours 2 RX12 ((some .int)) D (mtys cI cS) mord g Am) (O : gO (mcell g cI cS sa) mord g) (X : gX D (mcell g cI cS sa) mord g S s H locs) (hl : lv_has ls 2 [(0, .ref (g 99)), (1, .int x1)]) (hF : fX12_hours_b0 N x1 S = some o) : W p l e (rmd 7) s m args below meth c H locs 0 0 (gE below args s D (mtys cI cS) (mcell g cI cS sa) mord g (some (.int o.1)) o.2) (F0 m 0 ls []) := by
  unfold fX12_hours_b0 at hF
  refine lv_aload_n C.1.1 C.1.2.1 dX12_hours_0 rfl (lv_at hl 0 rfl) ?_
  refine lv_iconst (v := 0) C.1.1 C.1.2.1 dX12_hours_1 (by decide) ?_
  obtain ⟨S1, eS1, hF⟩ := lt_some hF
  refine m_p4 C O X eS1 dX12_hours_2 (fun H locs X => ?_)
  refine lv_iload_n C.1.1 C.1.2.1 dX12_hours_5 rfl (lv_at hl 1 rfl) ?_
  refine lv_i2l (v := Int32.toInt64 x1) C.1.1 C.1.2.1 dX12_hours_6 rfl ?_
  refine lv_lconst (v := 1) C.1.1 C.1.2.1 dX12_hours_7 (by decide) ?_
  refine lv_ldc2 C.1.1 C.1.2.1 C.1.2.2.2.1 (C.1.2.2.2.2 _ mKL404) dX12_hours_8 ?_
  obtain ⟨q1, hq1, hF⟩ := bnd_some hF
  refine g_callSi C X vX12_isIn (kX12_isIn O C.2.2.2.2.1 N (Int32.toInt64 x1) 1 20  S1 q1 hq1) (Nat.le_of_ble_eq_true rfl) (Nat.le_of_ble_eq_true rfl) (Nat.le_of_ble_eq_true rfl) (Nat.le_of_ble_eq_true rfl) rfl hl.1 rfl (Nat.le_of_ble_eq_true rfl) dX12_hours_11 (fun H locs X => ?_)
  refine lv_if_eq (tgt := 29) C.1.1 C.1.2.1 dX12_hours_14 (by decide) (fun h_z => ?_) (fun h_z => ?_)
  · rw [if_pos h_z] at hF
    exact bX12_hours_29 C O X (lv_sub hl [0] rfl) hF
  · rw [if_neg h_z] at hF
    exact bX12_hours_17 C O X (lv_sub hl [0, 1] rfl) hF
noncomputable def fX12_hours (N : Nat) (x1 : Int32) (S : gS) : Option (Int32 × gS) := fX12_hours_b0 N x1 S
theorem kX12_hours {l : Launch} {D : va_G} {g : Nat → Nat} {cI cS : ClassId} {sa : Nat → Nat → Option Nat} {Am : (Nat → Prop) → State → Heap → Prop} (O : gO (mcell g cI cS sa) mord g) (P : gAm Am) (N : Nat) (x1 : Int32) (S : gS) (o : Int32 × gS) (hF : fX12_hours N x1 S = some o) : gM l yX12_hours cX12_hours 2 ((some .int)) 7 D (mtys cI cS) (mcell g cI cS sa) mord g Am [.ref (g 99), .int x1] S (some (.int o.1)) o.2 :=
  gM_of O P (by decide) (Nat.le_of_ble_eq_true rfl) (fun p e s m args below meth c ls C X hl => bX12_hours_0 C O X (lv_sub hl [0, 1] rfl) hF)
-- hire
noncomputable def fX12_hire_b41 (N : Nat) (x1 : Int32) (x2 : Int32) (S : gS) : Option (Int32 × gS) := bnd (fX12_keep N  S) fun q1 => (chk (inb x1 (6)) (lt (sU q1.2 35 (Int32.toNatClampNeg x1) x2) fun S2 => (some (1, S2))))
theorem bX12_hire_41 {N : Nat} {x1 : Int32} {x2 : Int32} {S : gS} {H : Heap} {locs : List Loc} {ls : Array Slot} {o : Int32 × gS} (C : gC p s m args meth c cX12_hire 3 RX12 ((some .boolean)) D (mtys cI cS) mord g Am) (O : gO (mcell g cI cS sa) mord g) (X : gX D (mcell g cI cS sa) mord g S s H locs) (hl : lv_has ls 3 [(0, .ref (g 99)), (1, .int x1), (2, .int x2)]) (hF : fX12_hire_b41 N x1 x2 S = some o) : W p l e (rmd 2) s m args below meth c H locs 0 0 (gE below args s D (mtys cI cS) (mcell g cI cS sa) mord g (some (.int o.1)) o.2) (F0 m 41 ls []) := by
  unfold fX12_hire_b41 at hF
  refine lv_aload_n C.1.1 C.1.2.1 dX12_hire_41 rfl (lv_at hl 0 rfl) ?_
  obtain ⟨q1, hq1, hF⟩ := bnd_some hF
  refine m_callV C X vX12_keep rfl (kX12_keep O C.2.2.2.2.1 N   S q1 hq1) (Nat.le_of_ble_eq_true rfl) (Nat.le_of_ble_eq_true rfl) (Nat.le_of_ble_eq_true rfl) (Nat.le_of_ble_eq_true rfl) rfl hl.1 rfl (Nat.le_of_ble_eq_true rfl) dX12_hire_42 (fun H locs X => ?_)
  refine lv_aload_n C.1.1 C.1.2.1 dX12_hire_45 rfl (lv_at hl 0 rfl) ?_
  refine m_g35 C X dX12_hire_46 ?_
  refine lv_iload_n C.1.1 C.1.2.1 dX12_hire_49 rfl (lv_at hl 1 rfl) ?_
  refine lv_iload_n C.1.1 C.1.2.1 dX12_hire_50 rfl (lv_at hl 2 rfl) ?_
  obtain ⟨h_1, hF⟩ := chk_some hF
  obtain ⟨S2, eS2, hF⟩ := lt_some hF
  refine m_w35 C O X  (inb_vp h_1) rfl eS2 dX12_hire_51 (fun H locs X => ?_)
  refine lv_iconst (v := 1) C.1.1 C.1.2.1 dX12_hire_52 (by decide) ?_
  cases hF
  exact g_zret (x := 1) C X (by decide) dX12_hire_53
noncomputable def fX12_hire_b36 (N : Nat) (S : gS) : Option (Int32 × gS) := bnd (fX12_refused N  S) fun q1 => (chk (zb q1.1) (some (q1.1, q1.2)))
theorem bX12_hire_36 {N : Nat} {S : gS} {H : Heap} {locs : List Loc} {ls : Array Slot} {o : Int32 × gS} (C : gC p s m args meth c cX12_hire 3 RX12 ((some .boolean)) D (mtys cI cS) mord g Am) (O : gO (mcell g cI cS sa) mord g) (X : gX D (mcell g cI cS sa) mord g S s H locs) (hl : lv_has ls 3 [(0, .ref (g 99))]) (hF : fX12_hire_b36 N S = some o) : W p l e (rmd 2) s m args below meth c H locs 0 0 (gE below args s D (mtys cI cS) (mcell g cI cS sa) mord g (some (.int o.1)) o.2) (F0 m 36 ls []) := by
  unfold fX12_hire_b36 at hF
  refine lv_aload_n C.1.1 C.1.2.1 dX12_hire_36 rfl (lv_at hl 0 rfl) ?_
  obtain ⟨q1, hq1, hF⟩ := bnd_some hF
  refine m_callVi C X vX12_refused rfl (kX12_refused O C.2.2.2.2.1 N   S q1 hq1) (Nat.le_of_ble_eq_true rfl) (Nat.le_of_ble_eq_true rfl) (Nat.le_of_ble_eq_true rfl) (Nat.le_of_ble_eq_true rfl) rfl hl.1 rfl (Nat.le_of_ble_eq_true rfl) dX12_hire_37 (fun H locs X => ?_)
  obtain ⟨h_1, hF⟩ := chk_some hF
  cases hF
  exact g_zret C X h_1 dX12_hire_40
noncomputable def fX12_hire_b27 (N : Nat) (x1 : Int32) (x2 : Int32) (S : gS) : Option (Int32 × gS) := bnd (fX12_hirerOf N x2 S) fun q1 => (if q1.1 = ((-1)) then fX12_hire_b41 N x1 x2 q1.2 else fX12_hire_b36 N q1.2)
theorem bX12_hire_27 {N : Nat} {x1 : Int32} {x2 : Int32} {S : gS} {H : Heap} {locs : List Loc} {ls : Array Slot} {o : Int32 × gS} (C : gC p s m args meth c cX12_hire 3 RX12 ((some .boolean)) D (mtys cI cS) mord g Am) (O : gO (mcell g cI cS sa) mord g) (X : gX D (mcell g cI cS sa) mord g S s H locs) (hl : lv_has ls 3 [(0, .ref (g 99)), (1, .int x1), (2, .int x2)]) (hF : fX12_hire_b27 N x1 x2 S = some o) : W p l e (rmd 2) s m args below meth c H locs 0 0 (gE below args s D (mtys cI cS) (mcell g cI cS sa) mord g (some (.int o.1)) o.2) (F0 m 27 ls []) := by
  unfold fX12_hire_b27 at hF
  refine lv_aload_n C.1.1 C.1.2.1 dX12_hire_27 rfl (lv_at hl 0 rfl) ?_
  refine lv_iload_n C.1.1 C.1.2.1 dX12_hire_28 rfl (lv_at hl 2 rfl) ?_
  obtain ⟨q1, hq1, hF⟩ := bnd_some hF
  refine m_callVi C X vX12_hirerOf rfl (kX12_hirerOf O C.2.2.2.2.1 N x2  S q1 hq1) (Nat.le_of_ble_eq_true rfl) (Nat.le_of_ble_eq_true rfl) (Nat.le_of_ble_eq_true rfl) (Nat.le_of_ble_eq_true rfl) rfl hl.1 rfl (Nat.le_of_ble_eq_true rfl) dX12_hire_29 (fun H locs X => ?_)
  refine lv_iconst (v := (-1)) C.1.1 C.1.2.1 dX12_hire_32 (by decide) ?_
  refine lv_icmp_eq (tgt := 41) C.1.1 C.1.2.1 dX12_hire_33 (by decide) (fun h_z => ?_) (fun h_z => ?_)
  · rw [if_pos h_z] at hF
    exact bX12_hire_41 C O X (lv_sub hl [0, 1, 2] rfl) hF
  · rw [if_neg h_z] at hF
    exact bX12_hire_36 C O X (lv_sub hl [0] rfl) hF
noncomputable def fX12_hire_b21 (N : Nat) (S : gS) : Option (Int32 × gS) := bnd (fX12_failing N 1 S) fun q1 => (chk (zb q1.1) (some (q1.1, q1.2)))
theorem bX12_hire_21 {N : Nat} {S : gS} {H : Heap} {locs : List Loc} {ls : Array Slot} {o : Int32 × gS} (C : gC p s m args meth c cX12_hire 3 RX12 ((some .boolean)) D (mtys cI cS) mord g Am) (O : gO (mcell g cI cS sa) mord g) (X : gX D (mcell g cI cS sa) mord g S s H locs) (hl : lv_has ls 3 [(0, .ref (g 99))]) (hF : fX12_hire_b21 N S = some o) : W p l e (rmd 2) s m args below meth c H locs 0 0 (gE below args s D (mtys cI cS) (mcell g cI cS sa) mord g (some (.int o.1)) o.2) (F0 m 21 ls []) := by
  unfold fX12_hire_b21 at hF
  refine lv_aload_n C.1.1 C.1.2.1 dX12_hire_21 rfl (lv_at hl 0 rfl) ?_
  refine lv_iconst (v := 1) C.1.1 C.1.2.1 dX12_hire_22 (by decide) ?_
  obtain ⟨q1, hq1, hF⟩ := bnd_some hF
  refine m_callVi C X vX12_failing rfl (kX12_failing O C.2.2.2.2.1 N 1  S q1 hq1) (Nat.le_of_ble_eq_true rfl) (Nat.le_of_ble_eq_true rfl) (Nat.le_of_ble_eq_true rfl) (Nat.le_of_ble_eq_true rfl) rfl hl.1 rfl (Nat.le_of_ble_eq_true rfl) dX12_hire_23 (fun H locs X => ?_)
  obtain ⟨h_1, hF⟩ := chk_some hF
  cases hF
  exact g_zret C X h_1 dX12_hire_26
noncomputable def fX12_hire_b13 (N : Nat) (x1 : Int32) (x2 : Int32) (S : gS) : Option (Int32 × gS) := bnd (fX12_isGrotto N x2 S) fun q1 => (if q1.1 = 0 then fX12_hire_b21 N q1.2 else fX12_hire_b27 N x1 x2 q1.2)
theorem bX12_hire_13 {N : Nat} {x1 : Int32} {x2 : Int32} {S : gS} {H : Heap} {locs : List Loc} {ls : Array Slot} {o : Int32 × gS} (C : gC p s m args meth c cX12_hire 3 RX12 ((some .boolean)) D (mtys cI cS) mord g Am) (O : gO (mcell g cI cS sa) mord g) (X : gX D (mcell g cI cS sa) mord g S s H locs) (hl : lv_has ls 3 [(0, .ref (g 99)), (1, .int x1), (2, .int x2)]) (hF : fX12_hire_b13 N x1 x2 S = some o) : W p l e (rmd 2) s m args below meth c H locs 0 0 (gE below args s D (mtys cI cS) (mcell g cI cS sa) mord g (some (.int o.1)) o.2) (F0 m 13 ls []) := by
  unfold fX12_hire_b13 at hF
  refine lv_aload_n C.1.1 C.1.2.1 dX12_hire_13 rfl (lv_at hl 0 rfl) ?_
  refine lv_iload_n C.1.1 C.1.2.1 dX12_hire_14 rfl (lv_at hl 2 rfl) ?_
  obtain ⟨q1, hq1, hF⟩ := bnd_some hF
  refine m_callVi C X vX12_isGrotto rfl (kX12_isGrotto O C.2.2.2.2.1 N x2  S q1 hq1) (Nat.le_of_ble_eq_true rfl) (Nat.le_of_ble_eq_true rfl) (Nat.le_of_ble_eq_true rfl) (Nat.le_of_ble_eq_true rfl) rfl hl.1 rfl (Nat.le_of_ble_eq_true rfl) dX12_hire_15 (fun H locs X => ?_)
  refine lv_if_ne (tgt := 27) C.1.1 C.1.2.1 dX12_hire_18 (by decide) (fun h_z => ?_) (fun h_z => ?_)
  · rw [if_neg h_z] at hF
    exact bX12_hire_27 C O X (lv_sub hl [0, 1, 2] rfl) hF
  · rw [if_pos h_z] at hF
    exact bX12_hire_21 C O X (lv_sub hl [0] rfl) hF
noncomputable def fX12_hire_b0 (N : Nat) (x1 : Int32) (x2 : Int32) (S : gS) : Option (Int32 × gS) := lt (sU S 99 4 0) fun S1 => (bnd (fX12_isGuild N x1 S1) fun q1 => (if q1.1 = 0 then fX12_hire_b21 N q1.2 else fX12_hire_b13 N x1 x2 q1.2))
theorem bX12_hire_0 {N : Nat} {x1 : Int32} {x2 : Int32} {S : gS} {H : Heap} {locs : List Loc} {ls : Array Slot} {o : Int32 × gS} (C : gC p s m args meth c cX12_hire 3 RX12 ((some .boolean)) D (mtys cI cS) mord g Am) (O : gO (mcell g cI cS sa) mord g) (X : gX D (mcell g cI cS sa) mord g S s H locs) (hl : lv_has ls 3 [(0, .ref (g 99)), (1, .int x1), (2, .int x2)]) (hF : fX12_hire_b0 N x1 x2 S = some o) : W p l e (rmd 2) s m args below meth c H locs 0 0 (gE below args s D (mtys cI cS) (mcell g cI cS sa) mord g (some (.int o.1)) o.2) (F0 m 0 ls []) := by
  unfold fX12_hire_b0 at hF
  refine lv_aload_n C.1.1 C.1.2.1 dX12_hire_0 rfl (lv_at hl 0 rfl) ?_
  refine lv_iconst (v := 0) C.1.1 C.1.2.1 dX12_hire_1 (by decide) ?_
  obtain ⟨S1, eS1, hF⟩ := lt_some hF
  refine m_p4 C O X eS1 dX12_hire_2 (fun H locs X => ?_)
  refine lv_aload_n C.1.1 C.1.2.1 dX12_hire_5 rfl (lv_at hl 0 rfl) ?_
  refine lv_iload_n C.1.1 C.1.2.1 dX12_hire_6 rfl (lv_at hl 1 rfl) ?_
  obtain ⟨q1, hq1, hF⟩ := bnd_some hF
  refine m_callVi C X vX12_isGuild rfl (kX12_isGuild O C.2.2.2.2.1 N x1  S1 q1 hq1) (Nat.le_of_ble_eq_true rfl) (Nat.le_of_ble_eq_true rfl) (Nat.le_of_ble_eq_true rfl) (Nat.le_of_ble_eq_true rfl) rfl hl.1 rfl (Nat.le_of_ble_eq_true rfl) dX12_hire_7 (fun H locs X => ?_)
  refine lv_if_eq (tgt := 21) C.1.1 C.1.2.1 dX12_hire_10 (by decide) (fun h_z => ?_) (fun h_z => ?_)
  · rw [if_pos h_z] at hF
    exact bX12_hire_21 C O X (lv_sub hl [0] rfl) hF
  · rw [if_neg h_z] at hF
    exact bX12_hire_13 C O X (lv_sub hl [0, 1, 2] rfl) hF
noncomputable def fX12_hire (N : Nat) (x1 : Int32) (x2 : Int32) (S : gS) : Option (Int32 × gS) := fX12_hire_b0 N x1 x2 S
theorem kX12_hire {l : Launch} {D : va_G} {g : Nat → Nat} {cI cS : ClassId} {sa : Nat → Nat → Option Nat} {Am : (Nat → Prop) → State → Heap → Prop} (O : gO (mcell g cI cS sa) mord g) (P : gAm Am) (N : Nat) (x1 : Int32) (x2 : Int32) (S : gS) (o : Int32 × gS) (hF : fX12_hire N x1 x2 S = some o) : gM l yX12_hire cX12_hire 3 ((some .boolean)) 2 D (mtys cI cS) (mcell g cI cS sa) mord g Am [.ref (g 99), .int x1, .int x2] S (some (.int o.1)) o.2 :=
  gM_of O P (by decide) (Nat.le_of_ble_eq_true rfl) (fun p e s m args below meth c ls C X hl => bX12_hire_0 C O X (lv_sub hl [0, 1, 2] rfl) hF)
-- dismiss
noncomputable def fX12_dismiss_b37 (N : Nat) (x1 : Int32) (x2 : Int32) (S : gS) : Option (Int32 × gS) := bnd (fX12_keep N  S) fun q1 => (chk (inb x1 (6)) (lt (sU q1.2 35 (Int32.toNatClampNeg x1) ((-1))) fun S2 => (some (x2, S2))))
theorem bX12_dismiss_37 {N : Nat} {x1 : Int32} {x2 : Int32} {S : gS} {H : Heap} {locs : List Loc} {ls : Array Slot} {o : Int32 × gS} (C : gC p s m args meth c cX12_dismiss 3 RX12 ((some .int)) D (mtys cI cS) mord g Am) (O : gO (mcell g cI cS sa) mord g) (X : gX D (mcell g cI cS sa) mord g S s H locs) (hl : lv_has ls 3 [(0, .ref (g 99)), (1, .int x1), (2, .int x2)]) (hF : fX12_dismiss_b37 N x1 x2 S = some o) : W p l e (rmd 2) s m args below meth c H locs 0 0 (gE below args s D (mtys cI cS) (mcell g cI cS sa) mord g (some (.int o.1)) o.2) (F0 m 37 ls []) := by
  unfold fX12_dismiss_b37 at hF
  refine lv_aload_n C.1.1 C.1.2.1 dX12_dismiss_37 rfl (lv_at hl 0 rfl) ?_
  obtain ⟨q1, hq1, hF⟩ := bnd_some hF
  refine m_callV C X vX12_keep rfl (kX12_keep O C.2.2.2.2.1 N   S q1 hq1) (Nat.le_of_ble_eq_true rfl) (Nat.le_of_ble_eq_true rfl) (Nat.le_of_ble_eq_true rfl) (Nat.le_of_ble_eq_true rfl) rfl hl.1 rfl (Nat.le_of_ble_eq_true rfl) dX12_dismiss_38 (fun H locs X => ?_)
  refine lv_aload_n C.1.1 C.1.2.1 dX12_dismiss_41 rfl (lv_at hl 0 rfl) ?_
  refine m_g35 C X dX12_dismiss_42 ?_
  refine lv_iload_n C.1.1 C.1.2.1 dX12_dismiss_45 rfl (lv_at hl 1 rfl) ?_
  refine lv_iconst (v := (-1)) C.1.1 C.1.2.1 dX12_dismiss_46 (by decide) ?_
  obtain ⟨h_1, hF⟩ := chk_some hF
  obtain ⟨S2, eS2, hF⟩ := lt_some hF
  refine m_w35 C O X  (inb_vp h_1) rfl eS2 dX12_dismiss_47 (fun H locs X => ?_)
  refine lv_iload_n C.1.1 C.1.2.1 dX12_dismiss_48 rfl (lv_at hl 2 rfl) ?_
  cases hF
  exact g_iret C X dX12_dismiss_49
noncomputable def fX12_dismiss_b31 (N : Nat) (S : gS) : Option (Int32 × gS) := bnd (fX12_refuse N 1 S) fun q1 => (some (q1.1, q1.2))
theorem bX12_dismiss_31 {N : Nat} {S : gS} {H : Heap} {locs : List Loc} {ls : Array Slot} {o : Int32 × gS} (C : gC p s m args meth c cX12_dismiss 3 RX12 ((some .int)) D (mtys cI cS) mord g Am) (O : gO (mcell g cI cS sa) mord g) (X : gX D (mcell g cI cS sa) mord g S s H locs) (hl : lv_has ls 3 [(0, .ref (g 99))]) (hF : fX12_dismiss_b31 N S = some o) : W p l e (rmd 2) s m args below meth c H locs 0 0 (gE below args s D (mtys cI cS) (mcell g cI cS sa) mord g (some (.int o.1)) o.2) (F0 m 31 ls []) := by
  unfold fX12_dismiss_b31 at hF
  refine lv_aload_n C.1.1 C.1.2.1 dX12_dismiss_31 rfl (lv_at hl 0 rfl) ?_
  refine lv_iconst (v := 1) C.1.1 C.1.2.1 dX12_dismiss_32 (by decide) ?_
  obtain ⟨q1, hq1, hF⟩ := bnd_some hF
  refine m_callVi C X vX12_refuse rfl (kX12_refuse O C.2.2.2.2.1 N 1  S q1 hq1) (Nat.le_of_ble_eq_true rfl) (Nat.le_of_ble_eq_true rfl) (Nat.le_of_ble_eq_true rfl) (Nat.le_of_ble_eq_true rfl) rfl hl.1 rfl (Nat.le_of_ble_eq_true rfl) dX12_dismiss_33 (fun H locs X => ?_)
  cases hF
  exact g_iret C X dX12_dismiss_36
noncomputable def fX12_dismiss_b19 (N : Nat) (x1 : Int32) (S : gS) : Option (Int32 × gS) := chk (inb x1 (6)) (if (S 35 (Int32.toNatClampNeg x1)) = ((-1)) then fX12_dismiss_b31 N S else fX12_dismiss_b37 N x1 (S 35 (Int32.toNatClampNeg x1)) S)
theorem bX12_dismiss_19 {N : Nat} {x1 : Int32} {S : gS} {H : Heap} {locs : List Loc} {ls : Array Slot} {o : Int32 × gS} (C : gC p s m args meth c cX12_dismiss 3 RX12 ((some .int)) D (mtys cI cS) mord g Am) (O : gO (mcell g cI cS sa) mord g) (X : gX D (mcell g cI cS sa) mord g S s H locs) (hl : lv_has ls 3 [(0, .ref (g 99)), (1, .int x1)]) (hF : fX12_dismiss_b19 N x1 S = some o) : W p l e (rmd 2) s m args below meth c H locs 0 0 (gE below args s D (mtys cI cS) (mcell g cI cS sa) mord g (some (.int o.1)) o.2) (F0 m 19 ls []) := by
  unfold fX12_dismiss_b19 at hF
  refine lv_aload_n C.1.1 C.1.2.1 dX12_dismiss_19 rfl (lv_at hl 0 rfl) ?_
  refine m_g35 C X dX12_dismiss_20 ?_
  refine lv_iload_n C.1.1 C.1.2.1 dX12_dismiss_23 rfl (lv_at hl 1 rfl) ?_
  obtain ⟨h_1, hF⟩ := chk_some hF
  refine m_r35 C X  (inb_vp h_1) rfl dX12_dismiss_24 ?_
  refine lv_istore_n (lv' := [(2, .int (S 35 (Int32.toNatClampNeg x1))), (0, .ref (g 99)), (1, .int x1)]) C.1.1 C.1.2.1 dX12_dismiss_25 rfl hl (by decide) rfl (fun ls hl => ?_)
  refine lv_iload_n C.1.1 C.1.2.1 dX12_dismiss_26 rfl (lv_at hl 0 rfl) ?_
  refine lv_iconst (v := (-1)) C.1.1 C.1.2.1 dX12_dismiss_27 (by decide) ?_
  refine lv_icmp_ne (tgt := 37) C.1.1 C.1.2.1 dX12_dismiss_28 (by decide) (fun h_z => ?_) (fun h_z => ?_)
  · rw [if_neg h_z] at hF
    exact bX12_dismiss_37 C O X (lv_sub hl [1, 2, 0] rfl) hF
  · rw [if_pos h_z] at hF
    exact bX12_dismiss_31 C O X (lv_sub hl [1] rfl) hF
noncomputable def fX12_dismiss_b13 (N : Nat) (S : gS) : Option (Int32 × gS) := bnd (fX12_fail N 1 S) fun q1 => (some (q1.1, q1.2))
theorem bX12_dismiss_13 {N : Nat} {S : gS} {H : Heap} {locs : List Loc} {ls : Array Slot} {o : Int32 × gS} (C : gC p s m args meth c cX12_dismiss 3 RX12 ((some .int)) D (mtys cI cS) mord g Am) (O : gO (mcell g cI cS sa) mord g) (X : gX D (mcell g cI cS sa) mord g S s H locs) (hl : lv_has ls 3 [(0, .ref (g 99))]) (hF : fX12_dismiss_b13 N S = some o) : W p l e (rmd 2) s m args below meth c H locs 0 0 (gE below args s D (mtys cI cS) (mcell g cI cS sa) mord g (some (.int o.1)) o.2) (F0 m 13 ls []) := by
  unfold fX12_dismiss_b13 at hF
  refine lv_aload_n C.1.1 C.1.2.1 dX12_dismiss_13 rfl (lv_at hl 0 rfl) ?_
  refine lv_iconst (v := 1) C.1.1 C.1.2.1 dX12_dismiss_14 (by decide) ?_
  obtain ⟨q1, hq1, hF⟩ := bnd_some hF
  refine m_callVi C X vX12_fail rfl (kX12_fail O C.2.2.2.2.1 N 1  S q1 hq1) (Nat.le_of_ble_eq_true rfl) (Nat.le_of_ble_eq_true rfl) (Nat.le_of_ble_eq_true rfl) (Nat.le_of_ble_eq_true rfl) rfl hl.1 rfl (Nat.le_of_ble_eq_true rfl) dX12_dismiss_15 (fun H locs X => ?_)
  cases hF
  exact g_iret C X dX12_dismiss_18
noncomputable def fX12_dismiss_b0 (N : Nat) (x1 : Int32) (S : gS) : Option (Int32 × gS) := lt (sU S 99 4 0) fun S1 => (bnd (fX12_isGuild N x1 S1) fun q1 => (if q1.1 = 0 then fX12_dismiss_b13 N q1.2 else fX12_dismiss_b19 N x1 q1.2))
theorem bX12_dismiss_0 {N : Nat} {x1 : Int32} {S : gS} {H : Heap} {locs : List Loc} {ls : Array Slot} {o : Int32 × gS} (C : gC p s m args meth c cX12_dismiss 3 RX12 ((some .int)) D (mtys cI cS) mord g Am) (O : gO (mcell g cI cS sa) mord g) (X : gX D (mcell g cI cS sa) mord g S s H locs) (hl : lv_has ls 3 [(0, .ref (g 99)), (1, .int x1)]) (hF : fX12_dismiss_b0 N x1 S = some o) : W p l e (rmd 2) s m args below meth c H locs 0 0 (gE below args s D (mtys cI cS) (mcell g cI cS sa) mord g (some (.int o.1)) o.2) (F0 m 0 ls []) := by
  unfold fX12_dismiss_b0 at hF
  refine lv_aload_n C.1.1 C.1.2.1 dX12_dismiss_0 rfl (lv_at hl 0 rfl) ?_
  refine lv_iconst (v := 0) C.1.1 C.1.2.1 dX12_dismiss_1 (by decide) ?_
  obtain ⟨S1, eS1, hF⟩ := lt_some hF
  refine m_p4 C O X eS1 dX12_dismiss_2 (fun H locs X => ?_)
  refine lv_aload_n C.1.1 C.1.2.1 dX12_dismiss_5 rfl (lv_at hl 0 rfl) ?_
  refine lv_iload_n C.1.1 C.1.2.1 dX12_dismiss_6 rfl (lv_at hl 1 rfl) ?_
  obtain ⟨q1, hq1, hF⟩ := bnd_some hF
  refine m_callVi C X vX12_isGuild rfl (kX12_isGuild O C.2.2.2.2.1 N x1  S1 q1 hq1) (Nat.le_of_ble_eq_true rfl) (Nat.le_of_ble_eq_true rfl) (Nat.le_of_ble_eq_true rfl) (Nat.le_of_ble_eq_true rfl) rfl hl.1 rfl (Nat.le_of_ble_eq_true rfl) dX12_dismiss_7 (fun H locs X => ?_)
  refine lv_if_ne (tgt := 19) C.1.1 C.1.2.1 dX12_dismiss_10 (by decide) (fun h_z => ?_) (fun h_z => ?_)
  · rw [if_neg h_z] at hF
    exact bX12_dismiss_19 C O X (lv_sub hl [0, 1] rfl) hF
  · rw [if_pos h_z] at hF
    exact bX12_dismiss_13 C O X (lv_sub hl [0] rfl) hF
noncomputable def fX12_dismiss (N : Nat) (x1 : Int32) (S : gS) : Option (Int32 × gS) := fX12_dismiss_b0 N x1 S
theorem kX12_dismiss {l : Launch} {D : va_G} {g : Nat → Nat} {cI cS : ClassId} {sa : Nat → Nat → Option Nat} {Am : (Nat → Prop) → State → Heap → Prop} (O : gO (mcell g cI cS sa) mord g) (P : gAm Am) (N : Nat) (x1 : Int32) (S : gS) (o : Int32 × gS) (hF : fX12_dismiss N x1 S = some o) : gM l yX12_dismiss cX12_dismiss 3 ((some .int)) 2 D (mtys cI cS) (mcell g cI cS sa) mord g Am [.ref (g 99), .int x1] S (some (.int o.1)) o.2 :=
  gM_of O P (by decide) (Nat.le_of_ble_eq_true rfl) (fun p e s m args below meth c ls C X hl => bX12_dismiss_0 C O X (lv_sub hl [0, 1] rfl) hF)
-- canConfess
noncomputable def fX12_canConfess_b16 (N : Nat) (t0 : Int32) (S : gS) : Option (Int32 × gS) := chk (zb t0) (some (t0, S))
theorem bX12_canConfess_16 {N : Nat} {t0 : Int32} {S : gS} {H : Heap} {locs : List Loc} {ls : Array Slot} {o : Int32 × gS} (C : gC p s m args meth c cX12_canConfess 2 RX12 ((some .boolean)) D (mtys cI cS) mord g Am) (O : gO (mcell g cI cS sa) mord g) (X : gX D (mcell g cI cS sa) mord g S s H locs) (hl : lv_has ls 2 []) (hF : fX12_canConfess_b16 N t0 S = some o) : W p l e (rmd 0) s m args below meth c H locs 0 0 (gE below args s D (mtys cI cS) (mcell g cI cS sa) mord g (some (.int o.1)) o.2) (F0 m 16 ls [.int t0]) := by
  unfold fX12_canConfess_b16 at hF
  obtain ⟨h_1, hF⟩ := chk_some hF
  cases hF
  exact g_zret C X h_1 dX12_canConfess_16
noncomputable def fX12_canConfess_b15 (N : Nat) (S : gS) : Option (Int32 × gS) := fX12_canConfess_b16 N 0 S
theorem bX12_canConfess_15 {N : Nat} {S : gS} {H : Heap} {locs : List Loc} {ls : Array Slot} {o : Int32 × gS} (C : gC p s m args meth c cX12_canConfess 2 RX12 ((some .boolean)) D (mtys cI cS) mord g Am) (O : gO (mcell g cI cS sa) mord g) (X : gX D (mcell g cI cS sa) mord g S s H locs) (hl : lv_has ls 2 []) (hF : fX12_canConfess_b15 N S = some o) : W p l e (rmd 0) s m args below meth c H locs 0 0 (gE below args s D (mtys cI cS) (mcell g cI cS sa) mord g (some (.int o.1)) o.2) (F0 m 15 ls []) := by
  unfold fX12_canConfess_b15 at hF
  refine lv_iconst (v := 0) C.1.1 C.1.2.1 dX12_canConfess_15 (by decide) ?_
  exact bX12_canConfess_16 C O X (lv_sub hl [] rfl) hF
noncomputable def fX12_canConfess_b11 (N : Nat) (S : gS) : Option (Int32 × gS) := fX12_canConfess_b16 N 1 S
theorem bX12_canConfess_11 {N : Nat} {S : gS} {H : Heap} {locs : List Loc} {ls : Array Slot} {o : Int32 × gS} (C : gC p s m args meth c cX12_canConfess 2 RX12 ((some .boolean)) D (mtys cI cS) mord g Am) (O : gO (mcell g cI cS sa) mord g) (X : gX D (mcell g cI cS sa) mord g S s H locs) (hl : lv_has ls 2 []) (hF : fX12_canConfess_b11 N S = some o) : W p l e (rmd 0) s m args below meth c H locs 0 0 (gE below args s D (mtys cI cS) (mcell g cI cS sa) mord g (some (.int o.1)) o.2) (F0 m 11 ls []) := by
  unfold fX12_canConfess_b11 at hF
  refine lv_iconst (v := 1) C.1.1 C.1.2.1 dX12_canConfess_11 (by decide) ?_
  refine lv_goto (tgt := 16) C.1.1 C.1.2.1 dX12_canConfess_12 (by decide) ?_
  exact bX12_canConfess_16 C O X (lv_sub hl [] rfl) hF
noncomputable def fX12_canConfess_b0 (N : Nat) (x1 : Int32) (S : gS) : Option (Int32 × gS) := chk (inb x1 (6)) (if (S 33 (Int32.toNatClampNeg x1)) < 50 then fX12_canConfess_b15 N S else fX12_canConfess_b11 N S)
theorem bX12_canConfess_0 {N : Nat} {x1 : Int32} {S : gS} {H : Heap} {locs : List Loc} {ls : Array Slot} {o : Int32 × gS} (C : gC p s m args meth c cX12_canConfess 2 RX12 ((some .boolean)) D (mtys cI cS) mord g Am) (O : gO (mcell g cI cS sa) mord g) (X : gX D (mcell g cI cS sa) mord g S s H locs) (hl : lv_has ls 2 [(0, .ref (g 99)), (1, .int x1)]) (hF : fX12_canConfess_b0 N x1 S = some o) : W p l e (rmd 0) s m args below meth c H locs 0 0 (gE below args s D (mtys cI cS) (mcell g cI cS sa) mord g (some (.int o.1)) o.2) (F0 m 0 ls []) := by
  unfold fX12_canConfess_b0 at hF
  refine lv_aload_n C.1.1 C.1.2.1 dX12_canConfess_0 rfl (lv_at hl 0 rfl) ?_
  refine m_g33 C X dX12_canConfess_1 ?_
  refine lv_iload_n C.1.1 C.1.2.1 dX12_canConfess_4 rfl (lv_at hl 1 rfl) ?_
  obtain ⟨h_1, hF⟩ := chk_some hF
  refine m_r33 C X  (inb_vp h_1) rfl dX12_canConfess_5 ?_
  refine lv_bipush (v := 50) C.1.1 C.1.2.1 dX12_canConfess_6 (by decide) ?_
  refine lv_icmp_lt (tgt := 15) C.1.1 C.1.2.1 dX12_canConfess_8 (by decide) (fun h_z => ?_) (fun h_z => ?_)
  · rw [if_pos h_z] at hF
    exact bX12_canConfess_15 C O X (lv_sub hl [] rfl) hF
  · rw [if_neg h_z] at hF
    exact bX12_canConfess_11 C O X (lv_sub hl [] rfl) hF
noncomputable def fX12_canConfess (N : Nat) (x1 : Int32) (S : gS) : Option (Int32 × gS) := fX12_canConfess_b0 N x1 S
theorem kX12_canConfess {l : Launch} {D : va_G} {g : Nat → Nat} {cI cS : ClassId} {sa : Nat → Nat → Option Nat} {Am : (Nat → Prop) → State → Heap → Prop} (O : gO (mcell g cI cS sa) mord g) (P : gAm Am) (N : Nat) (x1 : Int32) (S : gS) (o : Int32 × gS) (hF : fX12_canConfess N x1 S = some o) : gM l yX12_canConfess cX12_canConfess 2 ((some .boolean)) 0 D (mtys cI cS) (mcell g cI cS sa) mord g Am [.ref (g 99), .int x1] S (some (.int o.1)) o.2 :=
  gM_of O P (by decide) (Nat.le_of_ble_eq_true rfl) (fun p e s m args below meth c ls C X hl => bX12_canConfess_0 C O X (lv_sub hl [0, 1] rfl) hF)
-- doConfess
noncomputable def fX12_doConfess_b0 (N : Nat) (x1 : Int32) (S : gS) : Option (Int32 × gS) := chk (inb x1 (6)) (chk (inb x1 (6)) (lt (sU S 33 (Int32.toNatClampNeg x1) (((S 33 (Int32.toNatClampNeg x1)) - 50 : Int32))) fun S1 => (chk (inb x1 (6)) (chk (inb x1 (6)) (lt (sU S1 32 (Int32.toNatClampNeg x1) (((S1 32 (Int32.toNatClampNeg x1)) / 2 : Int32))) fun S2 => (some (0, S2)))))))
theorem bX12_doConfess_0 {N : Nat} {x1 : Int32} {S : gS} {H : Heap} {locs : List Loc} {ls : Array Slot} {o : Int32 × gS} (C : gC p s m args meth c cX12_doConfess 2 RX12 none D (mtys cI cS) mord g Am) (O : gO (mcell g cI cS sa) mord g) (X : gX D (mcell g cI cS sa) mord g S s H locs) (hl : lv_has ls 2 [(0, .ref (g 99)), (1, .int x1)]) (hF : fX12_doConfess_b0 N x1 S = some o) : W p l e (rmd 0) s m args below meth c H locs 0 0 (gE below args s D (mtys cI cS) (mcell g cI cS sa) mord g none o.2) (F0 m 0 ls []) := by
  unfold fX12_doConfess_b0 at hF
  refine lv_aload_n C.1.1 C.1.2.1 dX12_doConfess_0 rfl (lv_at hl 0 rfl) ?_
  refine m_g33 C X dX12_doConfess_1 ?_
  refine lv_iload_n C.1.1 C.1.2.1 dX12_doConfess_4 rfl (lv_at hl 1 rfl) ?_
  refine lv_dup2_11 C.1.1 C.1.2.1 dX12_doConfess_5 rfl rfl ?_
  obtain ⟨h_1, hF⟩ := chk_some hF
  refine m_r33 C X  (inb_vp h_1) rfl dX12_doConfess_6 ?_
  refine lv_bipush (v := 50) C.1.1 C.1.2.1 dX12_doConfess_7 (by decide) ?_
  refine lv_isub C.1.1 C.1.2.1 dX12_doConfess_9 ?_
  obtain ⟨h_2, hF⟩ := chk_some hF
  obtain ⟨S1, eS1, hF⟩ := lt_some hF
  refine m_w33 C O X  (inb_vp h_2) rfl eS1 dX12_doConfess_10 (fun H locs X => ?_)
  refine lv_aload_n C.1.1 C.1.2.1 dX12_doConfess_11 rfl (lv_at hl 0 rfl) ?_
  refine m_g32 C X dX12_doConfess_12 ?_
  refine lv_iload_n C.1.1 C.1.2.1 dX12_doConfess_15 rfl (lv_at hl 1 rfl) ?_
  refine lv_dup2_11 C.1.1 C.1.2.1 dX12_doConfess_16 rfl rfl ?_
  obtain ⟨h_3, hF⟩ := chk_some hF
  refine m_r32 C X  (inb_vp h_3) rfl dX12_doConfess_17 ?_
  refine lv_iconst (v := 2) C.1.1 C.1.2.1 dX12_doConfess_18 (by decide) ?_
  refine lv_idiv C.1.1 C.1.2.1 dX12_doConfess_19 (by decide) ?_
  obtain ⟨h_4, hF⟩ := chk_some hF
  obtain ⟨S2, eS2, hF⟩ := lt_some hF
  refine m_w32 C O X  (inb_vp h_4) rfl eS2 dX12_doConfess_20 (fun H locs X => ?_)
  cases hF
  exact g_vret C X dX12_doConfess_21
noncomputable def fX12_doConfess (N : Nat) (x1 : Int32) (S : gS) : Option (Int32 × gS) := fX12_doConfess_b0 N x1 S
theorem kX12_doConfess {l : Launch} {D : va_G} {g : Nat → Nat} {cI cS : ClassId} {sa : Nat → Nat → Option Nat} {Am : (Nat → Prop) → State → Heap → Prop} (O : gO (mcell g cI cS sa) mord g) (P : gAm Am) (N : Nat) (x1 : Int32) (S : gS) (o : Int32 × gS) (hF : fX12_doConfess N x1 S = some o) : gM l yX12_doConfess cX12_doConfess 2 none 0 D (mtys cI cS) (mcell g cI cS sa) mord g Am [.ref (g 99), .int x1] S none o.2 :=
  gM_of O P (by decide) (Nat.le_of_ble_eq_true rfl) (fun p e s m args below meth c ls C X hl => bX12_doConfess_0 C O X (lv_sub hl [0, 1] rfl) hF)
-- confess
noncomputable def fX12_confess_b33 (N : Nat) (x1 : Int32) (S : gS) : Option (Int32 × gS) := bnd (fX12_keep N  S) fun q1 => (bnd (fX12_doConfess N x1 q1.2) fun q2 => (chk (inb x1 (6)) (some (q2.2 32 (Int32.toNatClampNeg x1), q2.2))))
theorem bX12_confess_33 {N : Nat} {x1 : Int32} {S : gS} {H : Heap} {locs : List Loc} {ls : Array Slot} {o : Int32 × gS} (C : gC p s m args meth c cX12_confess 2 RX12 ((some .int)) D (mtys cI cS) mord g Am) (O : gO (mcell g cI cS sa) mord g) (X : gX D (mcell g cI cS sa) mord g S s H locs) (hl : lv_has ls 2 [(0, .ref (g 99)), (1, .int x1)]) (hF : fX12_confess_b33 N x1 S = some o) : W p l e (rmd 2) s m args below meth c H locs 0 0 (gE below args s D (mtys cI cS) (mcell g cI cS sa) mord g (some (.int o.1)) o.2) (F0 m 33 ls []) := by
  unfold fX12_confess_b33 at hF
  refine lv_aload_n C.1.1 C.1.2.1 dX12_confess_33 rfl (lv_at hl 0 rfl) ?_
  obtain ⟨q1, hq1, hF⟩ := bnd_some hF
  refine m_callV C X vX12_keep rfl (kX12_keep O C.2.2.2.2.1 N   S q1 hq1) (Nat.le_of_ble_eq_true rfl) (Nat.le_of_ble_eq_true rfl) (Nat.le_of_ble_eq_true rfl) (Nat.le_of_ble_eq_true rfl) rfl hl.1 rfl (Nat.le_of_ble_eq_true rfl) dX12_confess_34 (fun H locs X => ?_)
  refine lv_aload_n C.1.1 C.1.2.1 dX12_confess_37 rfl (lv_at hl 0 rfl) ?_
  refine lv_iload_n C.1.1 C.1.2.1 dX12_confess_38 rfl (lv_at hl 1 rfl) ?_
  obtain ⟨q2, hq2, hF⟩ := bnd_some hF
  refine m_callV C X vX12_doConfess rfl (kX12_doConfess O C.2.2.2.2.1 N x1  q1.2 q2 hq2) (Nat.le_of_ble_eq_true rfl) (Nat.le_of_ble_eq_true rfl) (Nat.le_of_ble_eq_true rfl) (Nat.le_of_ble_eq_true rfl) rfl hl.1 rfl (Nat.le_of_ble_eq_true rfl) dX12_confess_39 (fun H locs X => ?_)
  refine lv_aload_n C.1.1 C.1.2.1 dX12_confess_42 rfl (lv_at hl 0 rfl) ?_
  refine m_g32 C X dX12_confess_43 ?_
  refine lv_iload_n C.1.1 C.1.2.1 dX12_confess_46 rfl (lv_at hl 1 rfl) ?_
  obtain ⟨h_1, hF⟩ := chk_some hF
  refine m_r32 C X  (inb_vp h_1) rfl dX12_confess_47 ?_
  cases hF
  exact g_iret C X dX12_confess_48
noncomputable def fX12_confess_b27 (N : Nat) (S : gS) : Option (Int32 × gS) := bnd (fX12_refuse N 1 S) fun q1 => (some (q1.1, q1.2))
theorem bX12_confess_27 {N : Nat} {S : gS} {H : Heap} {locs : List Loc} {ls : Array Slot} {o : Int32 × gS} (C : gC p s m args meth c cX12_confess 2 RX12 ((some .int)) D (mtys cI cS) mord g Am) (O : gO (mcell g cI cS sa) mord g) (X : gX D (mcell g cI cS sa) mord g S s H locs) (hl : lv_has ls 2 [(0, .ref (g 99))]) (hF : fX12_confess_b27 N S = some o) : W p l e (rmd 2) s m args below meth c H locs 0 0 (gE below args s D (mtys cI cS) (mcell g cI cS sa) mord g (some (.int o.1)) o.2) (F0 m 27 ls []) := by
  unfold fX12_confess_b27 at hF
  refine lv_aload_n C.1.1 C.1.2.1 dX12_confess_27 rfl (lv_at hl 0 rfl) ?_
  refine lv_iconst (v := 1) C.1.1 C.1.2.1 dX12_confess_28 (by decide) ?_
  obtain ⟨q1, hq1, hF⟩ := bnd_some hF
  refine m_callVi C X vX12_refuse rfl (kX12_refuse O C.2.2.2.2.1 N 1  S q1 hq1) (Nat.le_of_ble_eq_true rfl) (Nat.le_of_ble_eq_true rfl) (Nat.le_of_ble_eq_true rfl) (Nat.le_of_ble_eq_true rfl) rfl hl.1 rfl (Nat.le_of_ble_eq_true rfl) dX12_confess_29 (fun H locs X => ?_)
  cases hF
  exact g_iret C X dX12_confess_32
noncomputable def fX12_confess_b19 (N : Nat) (x1 : Int32) (S : gS) : Option (Int32 × gS) := bnd (fX12_canConfess N x1 S) fun q1 => (if q1.1 = 0 then fX12_confess_b27 N q1.2 else fX12_confess_b33 N x1 q1.2)
theorem bX12_confess_19 {N : Nat} {x1 : Int32} {S : gS} {H : Heap} {locs : List Loc} {ls : Array Slot} {o : Int32 × gS} (C : gC p s m args meth c cX12_confess 2 RX12 ((some .int)) D (mtys cI cS) mord g Am) (O : gO (mcell g cI cS sa) mord g) (X : gX D (mcell g cI cS sa) mord g S s H locs) (hl : lv_has ls 2 [(0, .ref (g 99)), (1, .int x1)]) (hF : fX12_confess_b19 N x1 S = some o) : W p l e (rmd 2) s m args below meth c H locs 0 0 (gE below args s D (mtys cI cS) (mcell g cI cS sa) mord g (some (.int o.1)) o.2) (F0 m 19 ls []) := by
  unfold fX12_confess_b19 at hF
  refine lv_aload_n C.1.1 C.1.2.1 dX12_confess_19 rfl (lv_at hl 0 rfl) ?_
  refine lv_iload_n C.1.1 C.1.2.1 dX12_confess_20 rfl (lv_at hl 1 rfl) ?_
  obtain ⟨q1, hq1, hF⟩ := bnd_some hF
  refine m_callVi C X vX12_canConfess rfl (kX12_canConfess O C.2.2.2.2.1 N x1  S q1 hq1) (Nat.le_of_ble_eq_true rfl) (Nat.le_of_ble_eq_true rfl) (Nat.le_of_ble_eq_true rfl) (Nat.le_of_ble_eq_true rfl) rfl hl.1 rfl (Nat.le_of_ble_eq_true rfl) dX12_confess_21 (fun H locs X => ?_)
  refine lv_if_ne (tgt := 33) C.1.1 C.1.2.1 dX12_confess_24 (by decide) (fun h_z => ?_) (fun h_z => ?_)
  · rw [if_neg h_z] at hF
    exact bX12_confess_33 C O X (lv_sub hl [0, 1] rfl) hF
  · rw [if_pos h_z] at hF
    exact bX12_confess_27 C O X (lv_sub hl [0] rfl) hF
noncomputable def fX12_confess_b13 (N : Nat) (S : gS) : Option (Int32 × gS) := bnd (fX12_fail N 1 S) fun q1 => (some (q1.1, q1.2))
theorem bX12_confess_13 {N : Nat} {S : gS} {H : Heap} {locs : List Loc} {ls : Array Slot} {o : Int32 × gS} (C : gC p s m args meth c cX12_confess 2 RX12 ((some .int)) D (mtys cI cS) mord g Am) (O : gO (mcell g cI cS sa) mord g) (X : gX D (mcell g cI cS sa) mord g S s H locs) (hl : lv_has ls 2 [(0, .ref (g 99))]) (hF : fX12_confess_b13 N S = some o) : W p l e (rmd 2) s m args below meth c H locs 0 0 (gE below args s D (mtys cI cS) (mcell g cI cS sa) mord g (some (.int o.1)) o.2) (F0 m 13 ls []) := by
  unfold fX12_confess_b13 at hF
  refine lv_aload_n C.1.1 C.1.2.1 dX12_confess_13 rfl (lv_at hl 0 rfl) ?_
  refine lv_iconst (v := 1) C.1.1 C.1.2.1 dX12_confess_14 (by decide) ?_
  obtain ⟨q1, hq1, hF⟩ := bnd_some hF
  refine m_callVi C X vX12_fail rfl (kX12_fail O C.2.2.2.2.1 N 1  S q1 hq1) (Nat.le_of_ble_eq_true rfl) (Nat.le_of_ble_eq_true rfl) (Nat.le_of_ble_eq_true rfl) (Nat.le_of_ble_eq_true rfl) rfl hl.1 rfl (Nat.le_of_ble_eq_true rfl) dX12_confess_15 (fun H locs X => ?_)
  cases hF
  exact g_iret C X dX12_confess_18
noncomputable def fX12_confess_b0 (N : Nat) (x1 : Int32) (S : gS) : Option (Int32 × gS) := lt (sU S 99 4 0) fun S1 => (bnd (fX12_isGuild N x1 S1) fun q1 => (if q1.1 = 0 then fX12_confess_b13 N q1.2 else fX12_confess_b19 N x1 q1.2))
theorem bX12_confess_0 {N : Nat} {x1 : Int32} {S : gS} {H : Heap} {locs : List Loc} {ls : Array Slot} {o : Int32 × gS} (C : gC p s m args meth c cX12_confess 2 RX12 ((some .int)) D (mtys cI cS) mord g Am) (O : gO (mcell g cI cS sa) mord g) (X : gX D (mcell g cI cS sa) mord g S s H locs) (hl : lv_has ls 2 [(0, .ref (g 99)), (1, .int x1)]) (hF : fX12_confess_b0 N x1 S = some o) : W p l e (rmd 2) s m args below meth c H locs 0 0 (gE below args s D (mtys cI cS) (mcell g cI cS sa) mord g (some (.int o.1)) o.2) (F0 m 0 ls []) := by
  unfold fX12_confess_b0 at hF
  refine lv_aload_n C.1.1 C.1.2.1 dX12_confess_0 rfl (lv_at hl 0 rfl) ?_
  refine lv_iconst (v := 0) C.1.1 C.1.2.1 dX12_confess_1 (by decide) ?_
  obtain ⟨S1, eS1, hF⟩ := lt_some hF
  refine m_p4 C O X eS1 dX12_confess_2 (fun H locs X => ?_)
  refine lv_aload_n C.1.1 C.1.2.1 dX12_confess_5 rfl (lv_at hl 0 rfl) ?_
  refine lv_iload_n C.1.1 C.1.2.1 dX12_confess_6 rfl (lv_at hl 1 rfl) ?_
  obtain ⟨q1, hq1, hF⟩ := bnd_some hF
  refine m_callVi C X vX12_isGuild rfl (kX12_isGuild O C.2.2.2.2.1 N x1  S1 q1 hq1) (Nat.le_of_ble_eq_true rfl) (Nat.le_of_ble_eq_true rfl) (Nat.le_of_ble_eq_true rfl) (Nat.le_of_ble_eq_true rfl) rfl hl.1 rfl (Nat.le_of_ble_eq_true rfl) dX12_confess_7 (fun H locs X => ?_)
  refine lv_if_ne (tgt := 19) C.1.1 C.1.2.1 dX12_confess_10 (by decide) (fun h_z => ?_) (fun h_z => ?_)
  · rw [if_neg h_z] at hF
    exact bX12_confess_19 C O X (lv_sub hl [0, 1] rfl) hF
  · rw [if_pos h_z] at hF
    exact bX12_confess_13 C O X (lv_sub hl [0] rfl) hF
noncomputable def fX12_confess (N : Nat) (x1 : Int32) (S : gS) : Option (Int32 × gS) := fX12_confess_b0 N x1 S
theorem kX12_confess {l : Launch} {D : va_G} {g : Nat → Nat} {cI cS : ClassId} {sa : Nat → Nat → Option Nat} {Am : (Nat → Prop) → State → Heap → Prop} (O : gO (mcell g cI cS sa) mord g) (P : gAm Am) (N : Nat) (x1 : Int32) (S : gS) (o : Int32 × gS) (hF : fX12_confess N x1 S = some o) : gM l yX12_confess cX12_confess 2 ((some .int)) 2 D (mtys cI cS) (mcell g cI cS sa) mord g Am [.ref (g 99), .int x1] S (some (.int o.1)) o.2 :=
  gM_of O P (by decide) (Nat.le_of_ble_eq_true rfl) (fun p e s m args below meth c ls C X hl => bX12_confess_0 C O X (lv_sub hl [0, 1] rfl) hF)
-- drain
noncomputable def fX12_drain_b36 (N : Nat) (x1 : Int32) (S : gS) : Option (Int32 × gS) := bnd (fX12_keep N  S) fun q1 => (lt (sU q1.2 99 38 (((q1.2 99 38) ^^^ (((1 : Int32) <<< (x1 &&& 31) : Int32)) : Int32))) fun S2 => (some (1, S2)))
theorem bX12_drain_36 {N : Nat} {x1 : Int32} {S : gS} {H : Heap} {locs : List Loc} {ls : Array Slot} {o : Int32 × gS} (C : gC p s m args meth c cX12_drain 3 RX12 ((some .boolean)) D (mtys cI cS) mord g Am) (O : gO (mcell g cI cS sa) mord g) (X : gX D (mcell g cI cS sa) mord g S s H locs) (hl : lv_has ls 3 [(0, .ref (g 99)), (1, .int x1)]) (hF : fX12_drain_b36 N x1 S = some o) : W p l e (rmd 2) s m args below meth c H locs 0 0 (gE below args s D (mtys cI cS) (mcell g cI cS sa) mord g (some (.int o.1)) o.2) (F0 m 36 ls []) := by
  unfold fX12_drain_b36 at hF
  refine lv_aload_n C.1.1 C.1.2.1 dX12_drain_36 rfl (lv_at hl 0 rfl) ?_
  obtain ⟨q1, hq1, hF⟩ := bnd_some hF
  refine m_callV C X vX12_keep rfl (kX12_keep O C.2.2.2.2.1 N   S q1 hq1) (Nat.le_of_ble_eq_true rfl) (Nat.le_of_ble_eq_true rfl) (Nat.le_of_ble_eq_true rfl) (Nat.le_of_ble_eq_true rfl) rfl hl.1 rfl (Nat.le_of_ble_eq_true rfl) dX12_drain_37 (fun H locs X => ?_)
  refine lv_aload_n C.1.1 C.1.2.1 dX12_drain_40 rfl (lv_at hl 0 rfl) ?_
  refine lv_dup C.1.1 C.1.2.1 dX12_drain_41 rfl ?_
  refine m_g38 C X dX12_drain_42 ?_
  refine lv_iconst (v := 1) C.1.1 C.1.2.1 dX12_drain_45 (by decide) ?_
  refine lv_iload_n C.1.1 C.1.2.1 dX12_drain_46 rfl (lv_at hl 1 rfl) ?_
  refine lv_ishl C.1.1 C.1.2.1 dX12_drain_47 ?_
  refine lv_ixor C.1.1 C.1.2.1 dX12_drain_48 ?_
  obtain ⟨S2, eS2, hF⟩ := lt_some hF
  refine m_p38 C O X eS2 dX12_drain_49 (fun H locs X => ?_)
  refine lv_iconst (v := 1) C.1.1 C.1.2.1 dX12_drain_52 (by decide) ?_
  cases hF
  exact g_zret (x := 1) C X (by decide) dX12_drain_53
noncomputable def fX12_drain_b31 (N : Nat) (S : gS) : Option (Int32 × gS) := bnd (fX12_refused N  S) fun q1 => (chk (zb q1.1) (some (q1.1, q1.2)))
theorem bX12_drain_31 {N : Nat} {S : gS} {H : Heap} {locs : List Loc} {ls : Array Slot} {o : Int32 × gS} (C : gC p s m args meth c cX12_drain 3 RX12 ((some .boolean)) D (mtys cI cS) mord g Am) (O : gO (mcell g cI cS sa) mord g) (X : gX D (mcell g cI cS sa) mord g S s H locs) (hl : lv_has ls 3 [(0, .ref (g 99))]) (hF : fX12_drain_b31 N S = some o) : W p l e (rmd 2) s m args below meth c H locs 0 0 (gE below args s D (mtys cI cS) (mcell g cI cS sa) mord g (some (.int o.1)) o.2) (F0 m 31 ls []) := by
  unfold fX12_drain_b31 at hF
  refine lv_aload_n C.1.1 C.1.2.1 dX12_drain_31 rfl (lv_at hl 0 rfl) ?_
  obtain ⟨q1, hq1, hF⟩ := bnd_some hF
  refine m_callVi C X vX12_refused rfl (kX12_refused O C.2.2.2.2.1 N   S q1 hq1) (Nat.le_of_ble_eq_true rfl) (Nat.le_of_ble_eq_true rfl) (Nat.le_of_ble_eq_true rfl) (Nat.le_of_ble_eq_true rfl) rfl hl.1 rfl (Nat.le_of_ble_eq_true rfl) dX12_drain_32 (fun H locs X => ?_)
  obtain ⟨h_1, hF⟩ := chk_some hF
  cases hF
  exact g_zret C X h_1 dX12_drain_35
noncomputable def fX12_drain_b19 (N : Nat) (x1 : Int32) (x2 : Int32) (S : gS) : Option (Int32 × gS) := bnd (fX12_isOf N (S 99 38) x1 S) fun q1 => (if q1.1 = x2 then fX12_drain_b31 N q1.2 else fX12_drain_b36 N x1 q1.2)
theorem bX12_drain_19 {N : Nat} {x1 : Int32} {x2 : Int32} {S : gS} {H : Heap} {locs : List Loc} {ls : Array Slot} {o : Int32 × gS} (C : gC p s m args meth c cX12_drain 3 RX12 ((some .boolean)) D (mtys cI cS) mord g Am) (O : gO (mcell g cI cS sa) mord g) (X : gX D (mcell g cI cS sa) mord g S s H locs) (hl : lv_has ls 3 [(0, .ref (g 99)), (1, .int x1), (2, .int x2)]) (hF : fX12_drain_b19 N x1 x2 S = some o) : W p l e (rmd 2) s m args below meth c H locs 0 0 (gE below args s D (mtys cI cS) (mcell g cI cS sa) mord g (some (.int o.1)) o.2) (F0 m 19 ls []) := by
  unfold fX12_drain_b19 at hF
  refine lv_aload_n C.1.1 C.1.2.1 dX12_drain_19 rfl (lv_at hl 0 rfl) ?_
  refine m_g38 C X dX12_drain_20 ?_
  refine lv_iload_n C.1.1 C.1.2.1 dX12_drain_23 rfl (lv_at hl 1 rfl) ?_
  obtain ⟨q1, hq1, hF⟩ := bnd_some hF
  refine g_callSi C X vX12_isOf (kX12_isOf O C.2.2.2.2.1 N (S 99 38) x1  S q1 hq1) (Nat.le_of_ble_eq_true rfl) (Nat.le_of_ble_eq_true rfl) (Nat.le_of_ble_eq_true rfl) (Nat.le_of_ble_eq_true rfl) rfl hl.1 rfl (Nat.le_of_ble_eq_true rfl) dX12_drain_24 (fun H locs X => ?_)
  refine lv_iload_n C.1.1 C.1.2.1 dX12_drain_27 rfl (lv_at hl 2 rfl) ?_
  refine lv_icmp_ne (tgt := 36) C.1.1 C.1.2.1 dX12_drain_28 (by decide) (fun h_z => ?_) (fun h_z => ?_)
  · rw [if_neg h_z] at hF
    exact bX12_drain_36 C O X (lv_sub hl [0, 1] rfl) hF
  · rw [if_pos h_z] at hF
    exact bX12_drain_31 C O X (lv_sub hl [0] rfl) hF
noncomputable def fX12_drain_b13 (N : Nat) (S : gS) : Option (Int32 × gS) := bnd (fX12_failing N 1 S) fun q1 => (chk (zb q1.1) (some (q1.1, q1.2)))
theorem bX12_drain_13 {N : Nat} {S : gS} {H : Heap} {locs : List Loc} {ls : Array Slot} {o : Int32 × gS} (C : gC p s m args meth c cX12_drain 3 RX12 ((some .boolean)) D (mtys cI cS) mord g Am) (O : gO (mcell g cI cS sa) mord g) (X : gX D (mcell g cI cS sa) mord g S s H locs) (hl : lv_has ls 3 [(0, .ref (g 99))]) (hF : fX12_drain_b13 N S = some o) : W p l e (rmd 2) s m args below meth c H locs 0 0 (gE below args s D (mtys cI cS) (mcell g cI cS sa) mord g (some (.int o.1)) o.2) (F0 m 13 ls []) := by
  unfold fX12_drain_b13 at hF
  refine lv_aload_n C.1.1 C.1.2.1 dX12_drain_13 rfl (lv_at hl 0 rfl) ?_
  refine lv_iconst (v := 1) C.1.1 C.1.2.1 dX12_drain_14 (by decide) ?_
  obtain ⟨q1, hq1, hF⟩ := bnd_some hF
  refine m_callVi C X vX12_failing rfl (kX12_failing O C.2.2.2.2.1 N 1  S q1 hq1) (Nat.le_of_ble_eq_true rfl) (Nat.le_of_ble_eq_true rfl) (Nat.le_of_ble_eq_true rfl) (Nat.le_of_ble_eq_true rfl) rfl hl.1 rfl (Nat.le_of_ble_eq_true rfl) dX12_drain_15 (fun H locs X => ?_)
  obtain ⟨h_1, hF⟩ := chk_some hF
  cases hF
  exact g_zret C X h_1 dX12_drain_18
noncomputable def fX12_drain_b0 (N : Nat) (x1 : Int32) (x2 : Int32) (S : gS) : Option (Int32 × gS) := lt (sU S 99 4 0) fun S1 => (bnd (fX12_isGrotto N x1 S1) fun q1 => (if q1.1 = 0 then fX12_drain_b13 N q1.2 else fX12_drain_b19 N x1 x2 q1.2))
theorem bX12_drain_0 {N : Nat} {x1 : Int32} {x2 : Int32} {S : gS} {H : Heap} {locs : List Loc} {ls : Array Slot} {o : Int32 × gS} (C : gC p s m args meth c cX12_drain 3 RX12 ((some .boolean)) D (mtys cI cS) mord g Am) (O : gO (mcell g cI cS sa) mord g) (X : gX D (mcell g cI cS sa) mord g S s H locs) (hl : lv_has ls 3 [(0, .ref (g 99)), (1, .int x1), (2, .int x2)]) (hF : fX12_drain_b0 N x1 x2 S = some o) : W p l e (rmd 2) s m args below meth c H locs 0 0 (gE below args s D (mtys cI cS) (mcell g cI cS sa) mord g (some (.int o.1)) o.2) (F0 m 0 ls []) := by
  unfold fX12_drain_b0 at hF
  refine lv_aload_n C.1.1 C.1.2.1 dX12_drain_0 rfl (lv_at hl 0 rfl) ?_
  refine lv_iconst (v := 0) C.1.1 C.1.2.1 dX12_drain_1 (by decide) ?_
  obtain ⟨S1, eS1, hF⟩ := lt_some hF
  refine m_p4 C O X eS1 dX12_drain_2 (fun H locs X => ?_)
  refine lv_aload_n C.1.1 C.1.2.1 dX12_drain_5 rfl (lv_at hl 0 rfl) ?_
  refine lv_iload_n C.1.1 C.1.2.1 dX12_drain_6 rfl (lv_at hl 1 rfl) ?_
  obtain ⟨q1, hq1, hF⟩ := bnd_some hF
  refine m_callVi C X vX12_isGrotto rfl (kX12_isGrotto O C.2.2.2.2.1 N x1  S1 q1 hq1) (Nat.le_of_ble_eq_true rfl) (Nat.le_of_ble_eq_true rfl) (Nat.le_of_ble_eq_true rfl) (Nat.le_of_ble_eq_true rfl) rfl hl.1 rfl (Nat.le_of_ble_eq_true rfl) dX12_drain_7 (fun H locs X => ?_)
  refine lv_if_ne (tgt := 19) C.1.1 C.1.2.1 dX12_drain_10 (by decide) (fun h_z => ?_) (fun h_z => ?_)
  · rw [if_neg h_z] at hF
    exact bX12_drain_19 C O X (lv_sub hl [0, 1, 2] rfl) hF
  · rw [if_pos h_z] at hF
    exact bX12_drain_13 C O X (lv_sub hl [0] rfl) hF
noncomputable def fX12_drain (N : Nat) (x1 : Int32) (x2 : Int32) (S : gS) : Option (Int32 × gS) := fX12_drain_b0 N x1 x2 S
theorem kX12_drain {l : Launch} {D : va_G} {g : Nat → Nat} {cI cS : ClassId} {sa : Nat → Nat → Option Nat} {Am : (Nat → Prop) → State → Heap → Prop} (O : gO (mcell g cI cS sa) mord g) (P : gAm Am) (N : Nat) (x1 : Int32) (x2 : Int32) (S : gS) (o : Int32 × gS) (hF : fX12_drain N x1 x2 S = some o) : gM l yX12_drain cX12_drain 3 ((some .boolean)) 2 D (mtys cI cS) (mcell g cI cS sa) mord g Am [.ref (g 99), .int x1, .int x2] S (some (.int o.1)) o.2 :=
  gM_of O P (by decide) (Nat.le_of_ble_eq_true rfl) (fun p e s m args below meth c ls C X hl => bX12_drain_0 C O X (lv_sub hl [0, 1, 2] rfl) hF)
-- give
noncomputable def fX12_give_b37 (N : Nat) (x1 : Int32) (x2 : Int32) (S : gS) : Option (Int32 × gS) := bnd (fX12_keep N  S) fun q1 => (chk (inb x1 (6)) (chk (inb x1 (6)) (lt (sU q1.2 33 (Int32.toNatClampNeg x1) (if (((q1.2 33 (Int32.toNatClampNeg x1)) + x2 : Int32)) < 999 then (((q1.2 33 (Int32.toNatClampNeg x1)) + x2 : Int32)) else 999)) fun S2 => (chk (inb x1 (6)) (some (S2 33 (Int32.toNatClampNeg x1), S2))))))
theorem bX12_give_37 {N : Nat} {x1 : Int32} {x2 : Int32} {S : gS} {H : Heap} {locs : List Loc} {ls : Array Slot} {o : Int32 × gS} (C : gC p s m args meth c cX12_give 3 RX12 ((some .int)) D (mtys cI cS) mord g Am) (O : gO (mcell g cI cS sa) mord g) (X : gX D (mcell g cI cS sa) mord g S s H locs) (hl : lv_has ls 3 [(0, .ref (g 99)), (1, .int x1), (2, .int x2)]) (hF : fX12_give_b37 N x1 x2 S = some o) : W p l e (rmd 2) s m args below meth c H locs 0 0 (gE below args s D (mtys cI cS) (mcell g cI cS sa) mord g (some (.int o.1)) o.2) (F0 m 37 ls []) := by
  unfold fX12_give_b37 at hF
  refine lv_aload_n C.1.1 C.1.2.1 dX12_give_37 rfl (lv_at hl 0 rfl) ?_
  obtain ⟨q1, hq1, hF⟩ := bnd_some hF
  refine m_callV C X vX12_keep rfl (kX12_keep O C.2.2.2.2.1 N   S q1 hq1) (Nat.le_of_ble_eq_true rfl) (Nat.le_of_ble_eq_true rfl) (Nat.le_of_ble_eq_true rfl) (Nat.le_of_ble_eq_true rfl) rfl hl.1 rfl (Nat.le_of_ble_eq_true rfl) dX12_give_38 (fun H locs X => ?_)
  refine lv_aload_n C.1.1 C.1.2.1 dX12_give_41 rfl (lv_at hl 0 rfl) ?_
  refine m_g33 C X dX12_give_42 ?_
  refine lv_iload_n C.1.1 C.1.2.1 dX12_give_45 rfl (lv_at hl 1 rfl) ?_
  refine lv_sipush (v := 999) C.1.1 C.1.2.1 dX12_give_46 (by decide) ?_
  refine lv_aload_n C.1.1 C.1.2.1 dX12_give_49 rfl (lv_at hl 0 rfl) ?_
  refine m_g33 C X dX12_give_50 ?_
  refine lv_iload_n C.1.1 C.1.2.1 dX12_give_53 rfl (lv_at hl 1 rfl) ?_
  obtain ⟨h_1, hF⟩ := chk_some hF
  refine m_r33 C X  (inb_vp h_1) rfl dX12_give_54 ?_
  refine lv_iload_n C.1.1 C.1.2.1 dX12_give_55 rfl (lv_at hl 2 rfl) ?_
  refine lv_iadd C.1.1 C.1.2.1 dX12_give_56 ?_
  refine g_min C hl.1 mMmin192 ⟨Nat.le_of_ble_eq_true rfl, Nat.le_of_ble_eq_true rfl⟩ (Nat.le_of_ble_eq_true rfl) (Nat.le_of_ble_eq_true rfl) dX12_give_57 ?_
  obtain ⟨h_2, hF⟩ := chk_some hF
  obtain ⟨S2, eS2, hF⟩ := lt_some hF
  refine m_w33 C O X  (inb_vp h_2) rfl eS2 dX12_give_60 (fun H locs X => ?_)
  refine lv_aload_n C.1.1 C.1.2.1 dX12_give_61 rfl (lv_at hl 0 rfl) ?_
  refine m_g33 C X dX12_give_62 ?_
  refine lv_iload_n C.1.1 C.1.2.1 dX12_give_65 rfl (lv_at hl 1 rfl) ?_
  obtain ⟨h_3, hF⟩ := chk_some hF
  refine m_r33 C X  (inb_vp h_3) rfl dX12_give_66 ?_
  cases hF
  exact g_iret C X dX12_give_67
noncomputable def fX12_give_b31 (N : Nat) (S : gS) : Option (Int32 × gS) := bnd (fX12_refuse N 1 S) fun q1 => (some (q1.1, q1.2))
theorem bX12_give_31 {N : Nat} {S : gS} {H : Heap} {locs : List Loc} {ls : Array Slot} {o : Int32 × gS} (C : gC p s m args meth c cX12_give 3 RX12 ((some .int)) D (mtys cI cS) mord g Am) (O : gO (mcell g cI cS sa) mord g) (X : gX D (mcell g cI cS sa) mord g S s H locs) (hl : lv_has ls 3 [(0, .ref (g 99))]) (hF : fX12_give_b31 N S = some o) : W p l e (rmd 2) s m args below meth c H locs 0 0 (gE below args s D (mtys cI cS) (mcell g cI cS sa) mord g (some (.int o.1)) o.2) (F0 m 31 ls []) := by
  unfold fX12_give_b31 at hF
  refine lv_aload_n C.1.1 C.1.2.1 dX12_give_31 rfl (lv_at hl 0 rfl) ?_
  refine lv_iconst (v := 1) C.1.1 C.1.2.1 dX12_give_32 (by decide) ?_
  obtain ⟨q1, hq1, hF⟩ := bnd_some hF
  refine m_callVi C X vX12_refuse rfl (kX12_refuse O C.2.2.2.2.1 N 1  S q1 hq1) (Nat.le_of_ble_eq_true rfl) (Nat.le_of_ble_eq_true rfl) (Nat.le_of_ble_eq_true rfl) (Nat.le_of_ble_eq_true rfl) rfl hl.1 rfl (Nat.le_of_ble_eq_true rfl) dX12_give_33 (fun H locs X => ?_)
  cases hF
  exact g_iret C X dX12_give_36
noncomputable def fX12_give_b19 (N : Nat) (x1 : Int32) (x2 : Int32) (S : gS) : Option (Int32 × gS) := bnd (fX12_isIn N (Int32.toInt64 x2) 1 100 S) fun q1 => (if q1.1 = 0 then fX12_give_b31 N q1.2 else fX12_give_b37 N x1 x2 q1.2)
theorem bX12_give_19 {N : Nat} {x1 : Int32} {x2 : Int32} {S : gS} {H : Heap} {locs : List Loc} {ls : Array Slot} {o : Int32 × gS} (C : gC p s m args meth c cX12_give 3 RX12 ((some .int)) D (mtys cI cS) mord g Am) (O : gO (mcell g cI cS sa) mord g) (X : gX D (mcell g cI cS sa) mord g S s H locs) (hl : lv_has ls 3 [(0, .ref (g 99)), (1, .int x1), (2, .int x2)]) (hF : fX12_give_b19 N x1 x2 S = some o) : W p l e (rmd 2) s m args below meth c H locs 0 0 (gE below args s D (mtys cI cS) (mcell g cI cS sa) mord g (some (.int o.1)) o.2) (F0 m 19 ls []) := by
  unfold fX12_give_b19 at hF
  refine lv_iload_n C.1.1 C.1.2.1 dX12_give_19 rfl (lv_at hl 2 rfl) ?_
  refine lv_i2l (v := Int32.toInt64 x2) C.1.1 C.1.2.1 dX12_give_20 rfl ?_
  refine lv_lconst (v := 1) C.1.1 C.1.2.1 dX12_give_21 (by decide) ?_
  refine lv_ldc2 C.1.1 C.1.2.1 C.1.2.2.2.1 (C.1.2.2.2.2 _ mKL428) dX12_give_22 ?_
  obtain ⟨q1, hq1, hF⟩ := bnd_some hF
  refine g_callSi C X vX12_isIn (kX12_isIn O C.2.2.2.2.1 N (Int32.toInt64 x2) 1 100  S q1 hq1) (Nat.le_of_ble_eq_true rfl) (Nat.le_of_ble_eq_true rfl) (Nat.le_of_ble_eq_true rfl) (Nat.le_of_ble_eq_true rfl) rfl hl.1 rfl (Nat.le_of_ble_eq_true rfl) dX12_give_25 (fun H locs X => ?_)
  refine lv_if_ne (tgt := 37) C.1.1 C.1.2.1 dX12_give_28 (by decide) (fun h_z => ?_) (fun h_z => ?_)
  · rw [if_neg h_z] at hF
    exact bX12_give_37 C O X (lv_sub hl [0, 1, 2] rfl) hF
  · rw [if_pos h_z] at hF
    exact bX12_give_31 C O X (lv_sub hl [0] rfl) hF
noncomputable def fX12_give_b13 (N : Nat) (S : gS) : Option (Int32 × gS) := bnd (fX12_fail N 1 S) fun q1 => (some (q1.1, q1.2))
theorem bX12_give_13 {N : Nat} {S : gS} {H : Heap} {locs : List Loc} {ls : Array Slot} {o : Int32 × gS} (C : gC p s m args meth c cX12_give 3 RX12 ((some .int)) D (mtys cI cS) mord g Am) (O : gO (mcell g cI cS sa) mord g) (X : gX D (mcell g cI cS sa) mord g S s H locs) (hl : lv_has ls 3 [(0, .ref (g 99))]) (hF : fX12_give_b13 N S = some o) : W p l e (rmd 2) s m args below meth c H locs 0 0 (gE below args s D (mtys cI cS) (mcell g cI cS sa) mord g (some (.int o.1)) o.2) (F0 m 13 ls []) := by
  unfold fX12_give_b13 at hF
  refine lv_aload_n C.1.1 C.1.2.1 dX12_give_13 rfl (lv_at hl 0 rfl) ?_
  refine lv_iconst (v := 1) C.1.1 C.1.2.1 dX12_give_14 (by decide) ?_
  obtain ⟨q1, hq1, hF⟩ := bnd_some hF
  refine m_callVi C X vX12_fail rfl (kX12_fail O C.2.2.2.2.1 N 1  S q1 hq1) (Nat.le_of_ble_eq_true rfl) (Nat.le_of_ble_eq_true rfl) (Nat.le_of_ble_eq_true rfl) (Nat.le_of_ble_eq_true rfl) rfl hl.1 rfl (Nat.le_of_ble_eq_true rfl) dX12_give_15 (fun H locs X => ?_)
  cases hF
  exact g_iret C X dX12_give_18
noncomputable def fX12_give_b0 (N : Nat) (x1 : Int32) (x2 : Int32) (S : gS) : Option (Int32 × gS) := lt (sU S 99 4 0) fun S1 => (bnd (fX12_isGuild N x1 S1) fun q1 => (if q1.1 = 0 then fX12_give_b13 N q1.2 else fX12_give_b19 N x1 x2 q1.2))
theorem bX12_give_0 {N : Nat} {x1 : Int32} {x2 : Int32} {S : gS} {H : Heap} {locs : List Loc} {ls : Array Slot} {o : Int32 × gS} (C : gC p s m args meth c cX12_give 3 RX12 ((some .int)) D (mtys cI cS) mord g Am) (O : gO (mcell g cI cS sa) mord g) (X : gX D (mcell g cI cS sa) mord g S s H locs) (hl : lv_has ls 3 [(0, .ref (g 99)), (1, .int x1), (2, .int x2)]) (hF : fX12_give_b0 N x1 x2 S = some o) : W p l e (rmd 2) s m args below meth c H locs 0 0 (gE below args s D (mtys cI cS) (mcell g cI cS sa) mord g (some (.int o.1)) o.2) (F0 m 0 ls []) := by
  unfold fX12_give_b0 at hF
  refine lv_aload_n C.1.1 C.1.2.1 dX12_give_0 rfl (lv_at hl 0 rfl) ?_
  refine lv_iconst (v := 0) C.1.1 C.1.2.1 dX12_give_1 (by decide) ?_
  obtain ⟨S1, eS1, hF⟩ := lt_some hF
  refine m_p4 C O X eS1 dX12_give_2 (fun H locs X => ?_)
  refine lv_aload_n C.1.1 C.1.2.1 dX12_give_5 rfl (lv_at hl 0 rfl) ?_
  refine lv_iload_n C.1.1 C.1.2.1 dX12_give_6 rfl (lv_at hl 1 rfl) ?_
  obtain ⟨q1, hq1, hF⟩ := bnd_some hF
  refine m_callVi C X vX12_isGuild rfl (kX12_isGuild O C.2.2.2.2.1 N x1  S1 q1 hq1) (Nat.le_of_ble_eq_true rfl) (Nat.le_of_ble_eq_true rfl) (Nat.le_of_ble_eq_true rfl) (Nat.le_of_ble_eq_true rfl) rfl hl.1 rfl (Nat.le_of_ble_eq_true rfl) dX12_give_7 (fun H locs X => ?_)
  refine lv_if_ne (tgt := 19) C.1.1 C.1.2.1 dX12_give_10 (by decide) (fun h_z => ?_) (fun h_z => ?_)
  · rw [if_neg h_z] at hF
    exact bX12_give_19 C O X (lv_sub hl [0, 1, 2] rfl) hF
  · rw [if_pos h_z] at hF
    exact bX12_give_13 C O X (lv_sub hl [0] rfl) hF
noncomputable def fX12_give (N : Nat) (x1 : Int32) (x2 : Int32) (S : gS) : Option (Int32 × gS) := fX12_give_b0 N x1 x2 S
theorem kX12_give {l : Launch} {D : va_G} {g : Nat → Nat} {cI cS : ClassId} {sa : Nat → Nat → Option Nat} {Am : (Nat → Prop) → State → Heap → Prop} (O : gO (mcell g cI cS sa) mord g) (P : gAm Am) (N : Nat) (x1 : Int32) (x2 : Int32) (S : gS) (o : Int32 × gS) (hF : fX12_give N x1 x2 S = some o) : gM l yX12_give cX12_give 3 ((some .int)) 2 D (mtys cI cS) (mcell g cI cS sa) mord g Am [.ref (g 99), .int x1, .int x2] S (some (.int o.1)) o.2 :=
  gM_of O P (by decide) (Nat.le_of_ble_eq_true rfl) (fun p e s m args below meth c ls C X hl => bX12_give_0 C O X (lv_sub hl [0, 1, 2] rfl) hF)
-- undo
noncomputable def fX12_undo_b14 (N : Nat) (S : gS) : Option (Int32 × gS) := lt (sU S 99 39 (((S 99 39) - 1 : Int32))) fun S1 => (bnd (fX12_unpack N 36 ((26 * (S1 99 39) : Int32)) S1) fun q1 => (some (q1.2 99 39, q1.2)))
theorem bX12_undo_14 {N : Nat} {S : gS} {H : Heap} {locs : List Loc} {ls : Array Slot} {o : Int32 × gS} (C : gC p s m args meth c cX12_undo 1 RX12 ((some .int)) D (mtys cI cS) mord g Am) (O : gO (mcell g cI cS sa) mord g) (X : gX D (mcell g cI cS sa) mord g S s H locs) (hl : lv_has ls 1 [(0, .ref (g 99))]) (hF : fX12_undo_b14 N S = some o) : W p l e (rmd 1) s m args below meth c H locs 0 0 (gE below args s D (mtys cI cS) (mcell g cI cS sa) mord g (some (.int o.1)) o.2) (F0 m 14 ls []) := by
  unfold fX12_undo_b14 at hF
  refine lv_aload_n C.1.1 C.1.2.1 dX12_undo_14 rfl (lv_at hl 0 rfl) ?_
  refine lv_dup C.1.1 C.1.2.1 dX12_undo_15 rfl ?_
  refine m_g39 C X dX12_undo_16 ?_
  refine lv_iconst (v := 1) C.1.1 C.1.2.1 dX12_undo_19 (by decide) ?_
  refine lv_isub C.1.1 C.1.2.1 dX12_undo_20 ?_
  obtain ⟨S1, eS1, hF⟩ := lt_some hF
  refine m_p39 C O X eS1 dX12_undo_21 (fun H locs X => ?_)
  refine lv_aload_n C.1.1 C.1.2.1 dX12_undo_24 rfl (lv_at hl 0 rfl) ?_
  refine lv_aload_n C.1.1 C.1.2.1 dX12_undo_25 rfl (lv_at hl 0 rfl) ?_
  refine m_g36 C X dX12_undo_26 ?_
  refine lv_bipush (v := 26) C.1.1 C.1.2.1 dX12_undo_29 (by decide) ?_
  refine lv_aload_n C.1.1 C.1.2.1 dX12_undo_31 rfl (lv_at hl 0 rfl) ?_
  refine m_g39 C X dX12_undo_32 ?_
  refine lv_imul C.1.1 C.1.2.1 dX12_undo_35 ?_
  obtain ⟨q1, hq1, hF⟩ := bnd_some hF
  refine m_callV C X vX12_unpack rfl (kX12_unpack O C.2.2.2.2.1 N 36 ((26 * (S1 99 39) : Int32)) (rfl : mI 36 = true) S1 q1 hq1) (Nat.le_of_ble_eq_true rfl) (Nat.le_of_ble_eq_true rfl) (Nat.le_of_ble_eq_true rfl) (Nat.le_of_ble_eq_true rfl) rfl hl.1 rfl (Nat.le_of_ble_eq_true rfl) dX12_undo_36 (fun H locs X => ?_)
  refine lv_aload_n C.1.1 C.1.2.1 dX12_undo_39 rfl (lv_at hl 0 rfl) ?_
  refine m_g39 C X dX12_undo_40 ?_
  cases hF
  exact g_iret C X dX12_undo_43
noncomputable def fX12_undo_b12 (N : Nat) (S : gS) : Option (Int32 × gS) := some ((-1), S)
theorem bX12_undo_12 {N : Nat} {S : gS} {H : Heap} {locs : List Loc} {ls : Array Slot} {o : Int32 × gS} (C : gC p s m args meth c cX12_undo 1 RX12 ((some .int)) D (mtys cI cS) mord g Am) (O : gO (mcell g cI cS sa) mord g) (X : gX D (mcell g cI cS sa) mord g S s H locs) (hl : lv_has ls 1 []) (hF : fX12_undo_b12 N S = some o) : W p l e (rmd 1) s m args below meth c H locs 0 0 (gE below args s D (mtys cI cS) (mcell g cI cS sa) mord g (some (.int o.1)) o.2) (F0 m 12 ls []) := by
  unfold fX12_undo_b12 at hF
  refine lv_iconst (v := (-1)) C.1.1 C.1.2.1 dX12_undo_12 (by decide) ?_
  cases hF
  exact g_iret C X dX12_undo_13
noncomputable def fX12_undo_b0 (N : Nat) (S : gS) : Option (Int32 × gS) := lt (sU S 99 4 0) fun S1 => (if (S1 99 39) = 0 then fX12_undo_b12 N S1 else fX12_undo_b14 N S1)
theorem bX12_undo_0 {N : Nat} {S : gS} {H : Heap} {locs : List Loc} {ls : Array Slot} {o : Int32 × gS} (C : gC p s m args meth c cX12_undo 1 RX12 ((some .int)) D (mtys cI cS) mord g Am) (O : gO (mcell g cI cS sa) mord g) (X : gX D (mcell g cI cS sa) mord g S s H locs) (hl : lv_has ls 1 [(0, .ref (g 99))]) (hF : fX12_undo_b0 N S = some o) : W p l e (rmd 1) s m args below meth c H locs 0 0 (gE below args s D (mtys cI cS) (mcell g cI cS sa) mord g (some (.int o.1)) o.2) (F0 m 0 ls []) := by
  unfold fX12_undo_b0 at hF
  refine lv_aload_n C.1.1 C.1.2.1 dX12_undo_0 rfl (lv_at hl 0 rfl) ?_
  refine lv_iconst (v := 0) C.1.1 C.1.2.1 dX12_undo_1 (by decide) ?_
  obtain ⟨S1, eS1, hF⟩ := lt_some hF
  refine m_p4 C O X eS1 dX12_undo_2 (fun H locs X => ?_)
  refine lv_aload_n C.1.1 C.1.2.1 dX12_undo_5 rfl (lv_at hl 0 rfl) ?_
  refine m_g39 C X dX12_undo_6 ?_
  refine lv_if_ne (tgt := 14) C.1.1 C.1.2.1 dX12_undo_9 (by decide) (fun h_z => ?_) (fun h_z => ?_)
  · rw [if_neg h_z] at hF
    exact bX12_undo_14 C O X (lv_sub hl [0] rfl) hF
  · rw [if_pos h_z] at hF
    exact bX12_undo_12 C O X (lv_sub hl [] rfl) hF
noncomputable def fX12_undo (N : Nat) (S : gS) : Option (Int32 × gS) := fX12_undo_b0 N S
theorem kX12_undo {l : Launch} {D : va_G} {g : Nat → Nat} {cI cS : ClassId} {sa : Nat → Nat → Option Nat} {Am : (Nat → Prop) → State → Heap → Prop} (O : gO (mcell g cI cS sa) mord g) (P : gAm Am) (N : Nat) (S : gS) (o : Int32 × gS) (hF : fX12_undo N S = some o) : gM l yX12_undo cX12_undo 1 ((some .int)) 1 D (mtys cI cS) (mcell g cI cS sa) mord g Am [.ref (g 99)] S (some (.int o.1)) o.2 :=
  gM_of O P (by decide) (Nat.le_of_ble_eq_true rfl) (fun p e s m args below meth c ls C X hl => bX12_undo_0 C O X (lv_sub hl [0] rfl) hF)
-- then
noncomputable def fX12_then_b110 (N : Nat) (t0 : Int32) (S : gS) : Option (Int32 × gS) := bnd (fX12_unpack N 46 0 S) fun q1 => (some (t0, q1.2))
theorem bX12_then_110 {N : Nat} {t0 : Int32} {S : gS} {H : Heap} {locs : List Loc} {ls : Array Slot} {o : Int32 × gS} (C : gC p s m args meth c cX12_then 5 RX12 ((some .int)) D (mtys cI cS) mord g Am) (O : gO (mcell g cI cS sa) mord g) (X : gX D (mcell g cI cS sa) mord g S s H locs) (hl : lv_has ls 5 [(0, .ref (g 99))]) (hF : fX12_then_b110 N t0 S = some o) : W p l e (rmd 7) s m args below meth c H locs 0 0 (gE below args s D (mtys cI cS) (mcell g cI cS sa) mord g (some (.int o.1)) o.2) (F0 m 110 ls [.int t0]) := by
  unfold fX12_then_b110 at hF
  refine lv_istore (lv' := [(4, .int t0), (0, .ref (g 99))]) C.1.1 C.1.2.1 dX12_then_110 hl (by decide) rfl (fun ls hl => ?_)
  refine lv_aload_n C.1.1 C.1.2.1 dX12_then_112 rfl (lv_at hl 1 rfl) ?_
  refine lv_aload_n C.1.1 C.1.2.1 dX12_then_113 rfl (lv_at hl 1 rfl) ?_
  refine m_g46 C X dX12_then_114 ?_
  refine lv_iconst (v := 0) C.1.1 C.1.2.1 dX12_then_117 (by decide) ?_
  obtain ⟨q1, hq1, hF⟩ := bnd_some hF
  refine m_callV C X vX12_unpack rfl (kX12_unpack O C.2.2.2.2.1 N 46 0 (rfl : mI 46 = true) S q1 hq1) (Nat.le_of_ble_eq_true rfl) (Nat.le_of_ble_eq_true rfl) (Nat.le_of_ble_eq_true rfl) (Nat.le_of_ble_eq_true rfl) rfl hl.1 rfl (Nat.le_of_ble_eq_true rfl) dX12_then_118 (fun H locs X => ?_)
  refine lv_iload C.1.1 C.1.2.1 dX12_then_121 (lv_at hl 0 rfl) ?_
  cases hF
  exact g_iret C X dX12_then_123
noncomputable def fX12_then_b104 (N : Nat) (x1 : Int32) (S : gS) : Option (Int32 × gS) := chk (inb x1 (6)) (fX12_then_b110 N (S 35 (Int32.toNatClampNeg x1)) S)
theorem bX12_then_104 {N : Nat} {x1 : Int32} {S : gS} {H : Heap} {locs : List Loc} {ls : Array Slot} {o : Int32 × gS} (C : gC p s m args meth c cX12_then 5 RX12 ((some .int)) D (mtys cI cS) mord g Am) (O : gO (mcell g cI cS sa) mord g) (X : gX D (mcell g cI cS sa) mord g S s H locs) (hl : lv_has ls 5 [(0, .ref (g 99)), (1, .int x1)]) (hF : fX12_then_b104 N x1 S = some o) : W p l e (rmd 7) s m args below meth c H locs 0 0 (gE below args s D (mtys cI cS) (mcell g cI cS sa) mord g (some (.int o.1)) o.2) (F0 m 104 ls []) := by
  unfold fX12_then_b104 at hF
  refine lv_aload_n C.1.1 C.1.2.1 dX12_then_104 rfl (lv_at hl 0 rfl) ?_
  refine m_g35 C X dX12_then_105 ?_
  refine lv_iload_n C.1.1 C.1.2.1 dX12_then_108 rfl (lv_at hl 1 rfl) ?_
  obtain ⟨h_1, hF⟩ := chk_some hF
  refine m_r35 C X  (inb_vp h_1) rfl dX12_then_109 ?_
  exact bX12_then_110 C O X (lv_sub hl [0] rfl) hF
noncomputable def fX12_then_b95 (N : Nat) (x1 : Int32) (S : gS) : Option (Int32 × gS) := chk (inb x1 (6)) (fX12_then_b110 N (S 34 (Int32.toNatClampNeg x1)) S)
theorem bX12_then_95 {N : Nat} {x1 : Int32} {S : gS} {H : Heap} {locs : List Loc} {ls : Array Slot} {o : Int32 × gS} (C : gC p s m args meth c cX12_then 5 RX12 ((some .int)) D (mtys cI cS) mord g Am) (O : gO (mcell g cI cS sa) mord g) (X : gX D (mcell g cI cS sa) mord g S s H locs) (hl : lv_has ls 5 [(0, .ref (g 99)), (1, .int x1)]) (hF : fX12_then_b95 N x1 S = some o) : W p l e (rmd 7) s m args below meth c H locs 0 0 (gE below args s D (mtys cI cS) (mcell g cI cS sa) mord g (some (.int o.1)) o.2) (F0 m 95 ls []) := by
  unfold fX12_then_b95 at hF
  refine lv_aload_n C.1.1 C.1.2.1 dX12_then_95 rfl (lv_at hl 0 rfl) ?_
  refine m_g34 C X dX12_then_96 ?_
  refine lv_iload_n C.1.1 C.1.2.1 dX12_then_99 rfl (lv_at hl 1 rfl) ?_
  obtain ⟨h_1, hF⟩ := chk_some hF
  refine m_r34 C X  (inb_vp h_1) rfl dX12_then_100 ?_
  refine lv_goto (tgt := 110) C.1.1 C.1.2.1 dX12_then_101 (by decide) ?_
  exact bX12_then_110 C O X (lv_sub hl [0] rfl) hF
noncomputable def fX12_then_b90 (N : Nat) (x1 : Int32) (x3 : Int32) (S : gS) : Option (Int32 × gS) := if x3 = 2 then fX12_then_b95 N x1 S else fX12_then_b104 N x1 S
theorem bX12_then_90 {N : Nat} {x1 : Int32} {x3 : Int32} {S : gS} {H : Heap} {locs : List Loc} {ls : Array Slot} {o : Int32 × gS} (C : gC p s m args meth c cX12_then 5 RX12 ((some .int)) D (mtys cI cS) mord g Am) (O : gO (mcell g cI cS sa) mord g) (X : gX D (mcell g cI cS sa) mord g S s H locs) (hl : lv_has ls 5 [(0, .ref (g 99)), (1, .int x1), (3, .int x3)]) (hF : fX12_then_b90 N x1 x3 S = some o) : W p l e (rmd 7) s m args below meth c H locs 0 0 (gE below args s D (mtys cI cS) (mcell g cI cS sa) mord g (some (.int o.1)) o.2) (F0 m 90 ls []) := by
  unfold fX12_then_b90 at hF
  refine lv_iload_n C.1.1 C.1.2.1 dX12_then_90 rfl (lv_at hl 2 rfl) ?_
  refine lv_iconst (v := 2) C.1.1 C.1.2.1 dX12_then_91 (by decide) ?_
  refine lv_icmp_ne (tgt := 104) C.1.1 C.1.2.1 dX12_then_92 (by decide) (fun h_z => ?_) (fun h_z => ?_)
  · rw [if_neg h_z] at hF
    exact bX12_then_104 C O X (lv_sub hl [0, 1] rfl) hF
  · rw [if_pos h_z] at hF
    exact bX12_then_95 C O X (lv_sub hl [0, 1] rfl) hF
noncomputable def fX12_then_b81 (N : Nat) (x1 : Int32) (S : gS) : Option (Int32 × gS) := chk (inb x1 (6)) (fX12_then_b110 N (S 33 (Int32.toNatClampNeg x1)) S)
theorem bX12_then_81 {N : Nat} {x1 : Int32} {S : gS} {H : Heap} {locs : List Loc} {ls : Array Slot} {o : Int32 × gS} (C : gC p s m args meth c cX12_then 5 RX12 ((some .int)) D (mtys cI cS) mord g Am) (O : gO (mcell g cI cS sa) mord g) (X : gX D (mcell g cI cS sa) mord g S s H locs) (hl : lv_has ls 5 [(0, .ref (g 99)), (1, .int x1)]) (hF : fX12_then_b81 N x1 S = some o) : W p l e (rmd 7) s m args below meth c H locs 0 0 (gE below args s D (mtys cI cS) (mcell g cI cS sa) mord g (some (.int o.1)) o.2) (F0 m 81 ls []) := by
  unfold fX12_then_b81 at hF
  refine lv_aload_n C.1.1 C.1.2.1 dX12_then_81 rfl (lv_at hl 0 rfl) ?_
  refine m_g33 C X dX12_then_82 ?_
  refine lv_iload_n C.1.1 C.1.2.1 dX12_then_85 rfl (lv_at hl 1 rfl) ?_
  obtain ⟨h_1, hF⟩ := chk_some hF
  refine m_r33 C X  (inb_vp h_1) rfl dX12_then_86 ?_
  refine lv_goto (tgt := 110) C.1.1 C.1.2.1 dX12_then_87 (by decide) ?_
  exact bX12_then_110 C O X (lv_sub hl [0] rfl) hF
noncomputable def fX12_then_b76 (N : Nat) (x1 : Int32) (x3 : Int32) (S : gS) : Option (Int32 × gS) := if x3 = 1 then fX12_then_b81 N x1 S else fX12_then_b90 N x1 x3 S
theorem bX12_then_76 {N : Nat} {x1 : Int32} {x3 : Int32} {S : gS} {H : Heap} {locs : List Loc} {ls : Array Slot} {o : Int32 × gS} (C : gC p s m args meth c cX12_then 5 RX12 ((some .int)) D (mtys cI cS) mord g Am) (O : gO (mcell g cI cS sa) mord g) (X : gX D (mcell g cI cS sa) mord g S s H locs) (hl : lv_has ls 5 [(0, .ref (g 99)), (1, .int x1), (3, .int x3)]) (hF : fX12_then_b76 N x1 x3 S = some o) : W p l e (rmd 7) s m args below meth c H locs 0 0 (gE below args s D (mtys cI cS) (mcell g cI cS sa) mord g (some (.int o.1)) o.2) (F0 m 76 ls []) := by
  unfold fX12_then_b76 at hF
  refine lv_iload_n C.1.1 C.1.2.1 dX12_then_76 rfl (lv_at hl 2 rfl) ?_
  refine lv_iconst (v := 1) C.1.1 C.1.2.1 dX12_then_77 (by decide) ?_
  refine lv_icmp_ne (tgt := 90) C.1.1 C.1.2.1 dX12_then_78 (by decide) (fun h_z => ?_) (fun h_z => ?_)
  · rw [if_neg h_z] at hF
    exact bX12_then_90 C O X (lv_sub hl [0, 1, 2] rfl) hF
  · rw [if_pos h_z] at hF
    exact bX12_then_81 C O X (lv_sub hl [0, 1] rfl) hF
noncomputable def fX12_then_b67 (N : Nat) (x1 : Int32) (S : gS) : Option (Int32 × gS) := chk (inb x1 (6)) (fX12_then_b110 N (S 32 (Int32.toNatClampNeg x1)) S)
theorem bX12_then_67 {N : Nat} {x1 : Int32} {S : gS} {H : Heap} {locs : List Loc} {ls : Array Slot} {o : Int32 × gS} (C : gC p s m args meth c cX12_then 5 RX12 ((some .int)) D (mtys cI cS) mord g Am) (O : gO (mcell g cI cS sa) mord g) (X : gX D (mcell g cI cS sa) mord g S s H locs) (hl : lv_has ls 5 [(0, .ref (g 99)), (1, .int x1)]) (hF : fX12_then_b67 N x1 S = some o) : W p l e (rmd 7) s m args below meth c H locs 0 0 (gE below args s D (mtys cI cS) (mcell g cI cS sa) mord g (some (.int o.1)) o.2) (F0 m 67 ls []) := by
  unfold fX12_then_b67 at hF
  refine lv_aload_n C.1.1 C.1.2.1 dX12_then_67 rfl (lv_at hl 0 rfl) ?_
  refine m_g32 C X dX12_then_68 ?_
  refine lv_iload_n C.1.1 C.1.2.1 dX12_then_71 rfl (lv_at hl 1 rfl) ?_
  obtain ⟨h_1, hF⟩ := chk_some hF
  refine m_r32 C X  (inb_vp h_1) rfl dX12_then_72 ?_
  refine lv_goto (tgt := 110) C.1.1 C.1.2.1 dX12_then_73 (by decide) ?_
  exact bX12_then_110 C O X (lv_sub hl [0] rfl) hF
noncomputable def fX12_then_b49 (N : Nat) (x1 : Int32) (x2 : Int32) (x3 : Int32) (S : gS) : Option (Int32 × gS) := bnd (fX12_pack N 46 0 S) fun q1 => (bnd (fX12_goOn N x2 q1.2) fun q2 => (if x3 = 0 then fX12_then_b67 N x1 q2.2 else fX12_then_b76 N x1 x3 q2.2))
theorem bX12_then_49 {N : Nat} {x1 : Int32} {x2 : Int32} {x3 : Int32} {S : gS} {H : Heap} {locs : List Loc} {ls : Array Slot} {o : Int32 × gS} (C : gC p s m args meth c cX12_then 5 RX12 ((some .int)) D (mtys cI cS) mord g Am) (O : gO (mcell g cI cS sa) mord g) (X : gX D (mcell g cI cS sa) mord g S s H locs) (hl : lv_has ls 5 [(0, .ref (g 99)), (1, .int x1), (2, .int x2), (3, .int x3)]) (hF : fX12_then_b49 N x1 x2 x3 S = some o) : W p l e (rmd 7) s m args below meth c H locs 0 0 (gE below args s D (mtys cI cS) (mcell g cI cS sa) mord g (some (.int o.1)) o.2) (F0 m 49 ls []) := by
  unfold fX12_then_b49 at hF
  refine lv_aload_n C.1.1 C.1.2.1 dX12_then_49 rfl (lv_at hl 0 rfl) ?_
  refine lv_aload_n C.1.1 C.1.2.1 dX12_then_50 rfl (lv_at hl 0 rfl) ?_
  refine m_g46 C X dX12_then_51 ?_
  refine lv_iconst (v := 0) C.1.1 C.1.2.1 dX12_then_54 (by decide) ?_
  obtain ⟨q1, hq1, hF⟩ := bnd_some hF
  refine m_callV C X vX12_pack rfl (kX12_pack O C.2.2.2.2.1 N 46 0 (rfl : mI 46 = true) S q1 hq1) (Nat.le_of_ble_eq_true rfl) (Nat.le_of_ble_eq_true rfl) (Nat.le_of_ble_eq_true rfl) (Nat.le_of_ble_eq_true rfl) rfl hl.1 rfl (Nat.le_of_ble_eq_true rfl) dX12_then_55 (fun H locs X => ?_)
  refine lv_aload_n C.1.1 C.1.2.1 dX12_then_58 rfl (lv_at hl 0 rfl) ?_
  refine lv_iload_n C.1.1 C.1.2.1 dX12_then_59 rfl (lv_at hl 2 rfl) ?_
  obtain ⟨q2, hq2, hF⟩ := bnd_some hF
  refine m_callV C X vX12_goOn rfl (kX12_goOn O C.2.2.2.2.1 N x2  q1.2 q2 hq2) (Nat.le_of_ble_eq_true rfl) (Nat.le_of_ble_eq_true rfl) (Nat.le_of_ble_eq_true rfl) (Nat.le_of_ble_eq_true rfl) rfl hl.1 rfl (Nat.le_of_ble_eq_true rfl) dX12_then_60 (fun H locs X => ?_)
  refine lv_iload_n C.1.1 C.1.2.1 dX12_then_63 rfl (lv_at hl 3 rfl) ?_
  refine lv_if_ne (tgt := 76) C.1.1 C.1.2.1 dX12_then_64 (by decide) (fun h_z => ?_) (fun h_z => ?_)
  · rw [if_neg h_z] at hF
    exact bX12_then_76 C O X (lv_sub hl [0, 1, 3] rfl) hF
  · rw [if_pos h_z] at hF
    exact bX12_then_67 C O X (lv_sub hl [0, 1] rfl) hF
noncomputable def fX12_then_b43 (N : Nat) (S : gS) : Option (Int32 × gS) := bnd (fX12_fail N 2 S) fun q1 => (some (q1.1, q1.2))
theorem bX12_then_43 {N : Nat} {S : gS} {H : Heap} {locs : List Loc} {ls : Array Slot} {o : Int32 × gS} (C : gC p s m args meth c cX12_then 5 RX12 ((some .int)) D (mtys cI cS) mord g Am) (O : gO (mcell g cI cS sa) mord g) (X : gX D (mcell g cI cS sa) mord g S s H locs) (hl : lv_has ls 5 [(0, .ref (g 99))]) (hF : fX12_then_b43 N S = some o) : W p l e (rmd 7) s m args below meth c H locs 0 0 (gE below args s D (mtys cI cS) (mcell g cI cS sa) mord g (some (.int o.1)) o.2) (F0 m 43 ls []) := by
  unfold fX12_then_b43 at hF
  refine lv_aload_n C.1.1 C.1.2.1 dX12_then_43 rfl (lv_at hl 0 rfl) ?_
  refine lv_iconst (v := 2) C.1.1 C.1.2.1 dX12_then_44 (by decide) ?_
  obtain ⟨q1, hq1, hF⟩ := bnd_some hF
  refine m_callVi C X vX12_fail rfl (kX12_fail O C.2.2.2.2.1 N 2  S q1 hq1) (Nat.le_of_ble_eq_true rfl) (Nat.le_of_ble_eq_true rfl) (Nat.le_of_ble_eq_true rfl) (Nat.le_of_ble_eq_true rfl) rfl hl.1 rfl (Nat.le_of_ble_eq_true rfl) dX12_then_45 (fun H locs X => ?_)
  cases hF
  exact g_iret C X dX12_then_48
noncomputable def fX12_then_b31 (N : Nat) (x1 : Int32) (x2 : Int32) (x3 : Int32) (S : gS) : Option (Int32 × gS) := bnd (fX12_isIn N (Int32.toInt64 x2) 0 60 S) fun q1 => (if q1.1 = 0 then fX12_then_b43 N q1.2 else fX12_then_b49 N x1 x2 x3 q1.2)
theorem bX12_then_31 {N : Nat} {x1 : Int32} {x2 : Int32} {x3 : Int32} {S : gS} {H : Heap} {locs : List Loc} {ls : Array Slot} {o : Int32 × gS} (C : gC p s m args meth c cX12_then 5 RX12 ((some .int)) D (mtys cI cS) mord g Am) (O : gO (mcell g cI cS sa) mord g) (X : gX D (mcell g cI cS sa) mord g S s H locs) (hl : lv_has ls 5 [(0, .ref (g 99)), (1, .int x1), (2, .int x2), (3, .int x3)]) (hF : fX12_then_b31 N x1 x2 x3 S = some o) : W p l e (rmd 7) s m args below meth c H locs 0 0 (gE below args s D (mtys cI cS) (mcell g cI cS sa) mord g (some (.int o.1)) o.2) (F0 m 31 ls []) := by
  unfold fX12_then_b31 at hF
  refine lv_iload_n C.1.1 C.1.2.1 dX12_then_31 rfl (lv_at hl 2 rfl) ?_
  refine lv_i2l (v := Int32.toInt64 x2) C.1.1 C.1.2.1 dX12_then_32 rfl ?_
  refine lv_lconst (v := 0) C.1.1 C.1.2.1 dX12_then_33 (by decide) ?_
  refine lv_ldc2 C.1.1 C.1.2.1 C.1.2.2.2.1 (C.1.2.2.2.2 _ mKL432) dX12_then_34 ?_
  obtain ⟨q1, hq1, hF⟩ := bnd_some hF
  refine g_callSi C X vX12_isIn (kX12_isIn O C.2.2.2.2.1 N (Int32.toInt64 x2) 0 60  S q1 hq1) (Nat.le_of_ble_eq_true rfl) (Nat.le_of_ble_eq_true rfl) (Nat.le_of_ble_eq_true rfl) (Nat.le_of_ble_eq_true rfl) rfl hl.1 rfl (Nat.le_of_ble_eq_true rfl) dX12_then_37 (fun H locs X => ?_)
  refine lv_if_ne (tgt := 49) C.1.1 C.1.2.1 dX12_then_40 (by decide) (fun h_z => ?_) (fun h_z => ?_)
  · rw [if_neg h_z] at hF
    exact bX12_then_49 C O X (lv_sub hl [0, 1, 2, 3] rfl) hF
  · rw [if_pos h_z] at hF
    exact bX12_then_43 C O X (lv_sub hl [0] rfl) hF
noncomputable def fX12_then_b25 (N : Nat) (S : gS) : Option (Int32 × gS) := bnd (fX12_fail N 1 S) fun q1 => (some (q1.1, q1.2))
theorem bX12_then_25 {N : Nat} {S : gS} {H : Heap} {locs : List Loc} {ls : Array Slot} {o : Int32 × gS} (C : gC p s m args meth c cX12_then 5 RX12 ((some .int)) D (mtys cI cS) mord g Am) (O : gO (mcell g cI cS sa) mord g) (X : gX D (mcell g cI cS sa) mord g S s H locs) (hl : lv_has ls 5 [(0, .ref (g 99))]) (hF : fX12_then_b25 N S = some o) : W p l e (rmd 7) s m args below meth c H locs 0 0 (gE below args s D (mtys cI cS) (mcell g cI cS sa) mord g (some (.int o.1)) o.2) (F0 m 25 ls []) := by
  unfold fX12_then_b25 at hF
  refine lv_aload_n C.1.1 C.1.2.1 dX12_then_25 rfl (lv_at hl 0 rfl) ?_
  refine lv_iconst (v := 1) C.1.1 C.1.2.1 dX12_then_26 (by decide) ?_
  obtain ⟨q1, hq1, hF⟩ := bnd_some hF
  refine m_callVi C X vX12_fail rfl (kX12_fail O C.2.2.2.2.1 N 1  S q1 hq1) (Nat.le_of_ble_eq_true rfl) (Nat.le_of_ble_eq_true rfl) (Nat.le_of_ble_eq_true rfl) (Nat.le_of_ble_eq_true rfl) rfl hl.1 rfl (Nat.le_of_ble_eq_true rfl) dX12_then_27 (fun H locs X => ?_)
  cases hF
  exact g_iret C X dX12_then_30
noncomputable def fX12_then_b13 (N : Nat) (x1 : Int32) (x2 : Int32) (x3 : Int32) (S : gS) : Option (Int32 × gS) := bnd (fX12_isIn N (Int32.toInt64 x3) 0 3 S) fun q1 => (if q1.1 = 0 then fX12_then_b25 N q1.2 else fX12_then_b31 N x1 x2 x3 q1.2)
theorem bX12_then_13 {N : Nat} {x1 : Int32} {x2 : Int32} {x3 : Int32} {S : gS} {H : Heap} {locs : List Loc} {ls : Array Slot} {o : Int32 × gS} (C : gC p s m args meth c cX12_then 5 RX12 ((some .int)) D (mtys cI cS) mord g Am) (O : gO (mcell g cI cS sa) mord g) (X : gX D (mcell g cI cS sa) mord g S s H locs) (hl : lv_has ls 5 [(0, .ref (g 99)), (1, .int x1), (2, .int x2), (3, .int x3)]) (hF : fX12_then_b13 N x1 x2 x3 S = some o) : W p l e (rmd 7) s m args below meth c H locs 0 0 (gE below args s D (mtys cI cS) (mcell g cI cS sa) mord g (some (.int o.1)) o.2) (F0 m 13 ls []) := by
  unfold fX12_then_b13 at hF
  refine lv_iload_n C.1.1 C.1.2.1 dX12_then_13 rfl (lv_at hl 3 rfl) ?_
  refine lv_i2l (v := Int32.toInt64 x3) C.1.1 C.1.2.1 dX12_then_14 rfl ?_
  refine lv_lconst (v := 0) C.1.1 C.1.2.1 dX12_then_15 (by decide) ?_
  refine lv_ldc2 C.1.1 C.1.2.1 C.1.2.2.2.1 (C.1.2.2.2.2 _ mKL430) dX12_then_16 ?_
  obtain ⟨q1, hq1, hF⟩ := bnd_some hF
  refine g_callSi C X vX12_isIn (kX12_isIn O C.2.2.2.2.1 N (Int32.toInt64 x3) 0 3  S q1 hq1) (Nat.le_of_ble_eq_true rfl) (Nat.le_of_ble_eq_true rfl) (Nat.le_of_ble_eq_true rfl) (Nat.le_of_ble_eq_true rfl) rfl hl.1 rfl (Nat.le_of_ble_eq_true rfl) dX12_then_19 (fun H locs X => ?_)
  refine lv_if_ne (tgt := 31) C.1.1 C.1.2.1 dX12_then_22 (by decide) (fun h_z => ?_) (fun h_z => ?_)
  · rw [if_neg h_z] at hF
    exact bX12_then_31 C O X (lv_sub hl [0, 1, 2, 3] rfl) hF
  · rw [if_pos h_z] at hF
    exact bX12_then_25 C O X (lv_sub hl [0] rfl) hF
noncomputable def fX12_then_b0 (N : Nat) (x1 : Int32) (x2 : Int32) (x3 : Int32) (S : gS) : Option (Int32 × gS) := lt (sU S 99 4 0) fun S1 => (bnd (fX12_isGuild N x1 S1) fun q1 => (if q1.1 = 0 then fX12_then_b25 N q1.2 else fX12_then_b13 N x1 x2 x3 q1.2))
theorem bX12_then_0 {N : Nat} {x1 : Int32} {x2 : Int32} {x3 : Int32} {S : gS} {H : Heap} {locs : List Loc} {ls : Array Slot} {o : Int32 × gS} (C : gC p s m args meth c cX12_then 5 RX12 ((some .int)) D (mtys cI cS) mord g Am) (O : gO (mcell g cI cS sa) mord g) (X : gX D (mcell g cI cS sa) mord g S s H locs) (hl : lv_has ls 5 [(0, .ref (g 99)), (1, .int x1), (2, .int x2), (3, .int x3)]) (hF : fX12_then_b0 N x1 x2 x3 S = some o) : W p l e (rmd 7) s m args below meth c H locs 0 0 (gE below args s D (mtys cI cS) (mcell g cI cS sa) mord g (some (.int o.1)) o.2) (F0 m 0 ls []) := by
  unfold fX12_then_b0 at hF
  refine lv_aload_n C.1.1 C.1.2.1 dX12_then_0 rfl (lv_at hl 0 rfl) ?_
  refine lv_iconst (v := 0) C.1.1 C.1.2.1 dX12_then_1 (by decide) ?_
  obtain ⟨S1, eS1, hF⟩ := lt_some hF
  refine m_p4 C O X eS1 dX12_then_2 (fun H locs X => ?_)
  refine lv_aload_n C.1.1 C.1.2.1 dX12_then_5 rfl (lv_at hl 0 rfl) ?_
  refine lv_iload_n C.1.1 C.1.2.1 dX12_then_6 rfl (lv_at hl 1 rfl) ?_
  obtain ⟨q1, hq1, hF⟩ := bnd_some hF
  refine m_callVi C X vX12_isGuild rfl (kX12_isGuild O C.2.2.2.2.1 N x1  S1 q1 hq1) (Nat.le_of_ble_eq_true rfl) (Nat.le_of_ble_eq_true rfl) (Nat.le_of_ble_eq_true rfl) (Nat.le_of_ble_eq_true rfl) rfl hl.1 rfl (Nat.le_of_ble_eq_true rfl) dX12_then_7 (fun H locs X => ?_)
  refine lv_if_eq (tgt := 25) C.1.1 C.1.2.1 dX12_then_10 (by decide) (fun h_z => ?_) (fun h_z => ?_)
  · rw [if_pos h_z] at hF
    exact bX12_then_25 C O X (lv_sub hl [0] rfl) hF
  · rw [if_neg h_z] at hF
    exact bX12_then_13 C O X (lv_sub hl [0, 1, 2, 3] rfl) hF
noncomputable def fX12_then (N : Nat) (x1 : Int32) (x2 : Int32) (x3 : Int32) (S : gS) : Option (Int32 × gS) := fX12_then_b0 N x1 x2 x3 S
theorem kX12_then {l : Launch} {D : va_G} {g : Nat → Nat} {cI cS : ClassId} {sa : Nat → Nat → Option Nat} {Am : (Nat → Prop) → State → Heap → Prop} (O : gO (mcell g cI cS sa) mord g) (P : gAm Am) (N : Nat) (x1 : Int32) (x2 : Int32) (x3 : Int32) (S : gS) (o : Int32 × gS) (hF : fX12_then N x1 x2 x3 S = some o) : gM l yX12_then cX12_then 5 ((some .int)) 7 D (mtys cI cS) (mcell g cI cS sa) mord g Am [.ref (g 99), .int x1, .int x2, .int x3] S (some (.int o.1)) o.2 :=
  gM_of O P (by decide) (Nat.le_of_ble_eq_true rfl) (fun p e s m args below meth c ls C X hl => bX12_then_0 C O X (lv_sub hl [0, 1, 2, 3] rfl) hF)
-- dripping
noncomputable def fX12_dripping_b23 (N : Nat) (x1 : Int32) (S : gS) : Option (Int32 × gS) := bnd (fX12_pack N 46 0 S) fun q1 => (lt (sU q1.2 99 37 (((q1.2 99 37) + ((x1 - 1 : Int32)) : Int32))) fun S2 => (bnd (fX12_drippingNow N  S2) fun q2 => (bnd (fX12_unpack N 46 0 q2.2) fun q3 => (some (q2.1, q3.2)))))
theorem bX12_dripping_23 {N : Nat} {x1 : Int32} {S : gS} {H : Heap} {locs : List Loc} {ls : Array Slot} {o : Int32 × gS} (C : gC p s m args meth c cX12_dripping 3 RX12 ((some .int)) D (mtys cI cS) mord g Am) (O : gO (mcell g cI cS sa) mord g) (X : gX D (mcell g cI cS sa) mord g S s H locs) (hl : lv_has ls 3 [(0, .ref (g 99)), (1, .int x1)]) (hF : fX12_dripping_b23 N x1 S = some o) : W p l e (rmd 2) s m args below meth c H locs 0 0 (gE below args s D (mtys cI cS) (mcell g cI cS sa) mord g (some (.int o.1)) o.2) (F0 m 23 ls []) := by
  unfold fX12_dripping_b23 at hF
  refine lv_aload_n C.1.1 C.1.2.1 dX12_dripping_23 rfl (lv_at hl 0 rfl) ?_
  refine lv_aload_n C.1.1 C.1.2.1 dX12_dripping_24 rfl (lv_at hl 0 rfl) ?_
  refine m_g46 C X dX12_dripping_25 ?_
  refine lv_iconst (v := 0) C.1.1 C.1.2.1 dX12_dripping_28 (by decide) ?_
  obtain ⟨q1, hq1, hF⟩ := bnd_some hF
  refine m_callV C X vX12_pack rfl (kX12_pack O C.2.2.2.2.1 N 46 0 (rfl : mI 46 = true) S q1 hq1) (Nat.le_of_ble_eq_true rfl) (Nat.le_of_ble_eq_true rfl) (Nat.le_of_ble_eq_true rfl) (Nat.le_of_ble_eq_true rfl) rfl hl.1 rfl (Nat.le_of_ble_eq_true rfl) dX12_dripping_29 (fun H locs X => ?_)
  refine lv_aload_n C.1.1 C.1.2.1 dX12_dripping_32 rfl (lv_at hl 0 rfl) ?_
  refine lv_dup C.1.1 C.1.2.1 dX12_dripping_33 rfl ?_
  refine m_g37 C X dX12_dripping_34 ?_
  refine lv_iload_n C.1.1 C.1.2.1 dX12_dripping_37 rfl (lv_at hl 1 rfl) ?_
  refine lv_iconst (v := 1) C.1.1 C.1.2.1 dX12_dripping_38 (by decide) ?_
  refine lv_isub C.1.1 C.1.2.1 dX12_dripping_39 ?_
  refine lv_iadd C.1.1 C.1.2.1 dX12_dripping_40 ?_
  obtain ⟨S2, eS2, hF⟩ := lt_some hF
  refine m_p37 C O X eS2 dX12_dripping_41 (fun H locs X => ?_)
  refine lv_aload_n C.1.1 C.1.2.1 dX12_dripping_44 rfl (lv_at hl 0 rfl) ?_
  obtain ⟨q2, hq2, hF⟩ := bnd_some hF
  refine m_callVi C X vX12_drippingNow rfl (kX12_drippingNow O C.2.2.2.2.1 N   S2 q2 hq2) (Nat.le_of_ble_eq_true rfl) (Nat.le_of_ble_eq_true rfl) (Nat.le_of_ble_eq_true rfl) (Nat.le_of_ble_eq_true rfl) rfl hl.1 rfl (Nat.le_of_ble_eq_true rfl) dX12_dripping_45 (fun H locs X => ?_)
  refine lv_istore_n (lv' := [(2, .int q2.1), (0, .ref (g 99)), (1, .int x1)]) C.1.1 C.1.2.1 dX12_dripping_48 rfl hl (by decide) rfl (fun ls hl => ?_)
  refine lv_aload_n C.1.1 C.1.2.1 dX12_dripping_49 rfl (lv_at hl 1 rfl) ?_
  refine lv_aload_n C.1.1 C.1.2.1 dX12_dripping_50 rfl (lv_at hl 1 rfl) ?_
  refine m_g46 C X dX12_dripping_51 ?_
  refine lv_iconst (v := 0) C.1.1 C.1.2.1 dX12_dripping_54 (by decide) ?_
  obtain ⟨q3, hq3, hF⟩ := bnd_some hF
  refine m_callV C X vX12_unpack rfl (kX12_unpack O C.2.2.2.2.1 N 46 0 (rfl : mI 46 = true) q2.2 q3 hq3) (Nat.le_of_ble_eq_true rfl) (Nat.le_of_ble_eq_true rfl) (Nat.le_of_ble_eq_true rfl) (Nat.le_of_ble_eq_true rfl) rfl hl.1 rfl (Nat.le_of_ble_eq_true rfl) dX12_dripping_55 (fun H locs X => ?_)
  refine lv_iload_n C.1.1 C.1.2.1 dX12_dripping_58 rfl (lv_at hl 0 rfl) ?_
  cases hF
  exact g_iret C X dX12_dripping_59
noncomputable def fX12_dripping_b17 (N : Nat) (S : gS) : Option (Int32 × gS) := bnd (fX12_fail N 1 S) fun q1 => (some (q1.1, q1.2))
theorem bX12_dripping_17 {N : Nat} {S : gS} {H : Heap} {locs : List Loc} {ls : Array Slot} {o : Int32 × gS} (C : gC p s m args meth c cX12_dripping 3 RX12 ((some .int)) D (mtys cI cS) mord g Am) (O : gO (mcell g cI cS sa) mord g) (X : gX D (mcell g cI cS sa) mord g S s H locs) (hl : lv_has ls 3 [(0, .ref (g 99))]) (hF : fX12_dripping_b17 N S = some o) : W p l e (rmd 2) s m args below meth c H locs 0 0 (gE below args s D (mtys cI cS) (mcell g cI cS sa) mord g (some (.int o.1)) o.2) (F0 m 17 ls []) := by
  unfold fX12_dripping_b17 at hF
  refine lv_aload_n C.1.1 C.1.2.1 dX12_dripping_17 rfl (lv_at hl 0 rfl) ?_
  refine lv_iconst (v := 1) C.1.1 C.1.2.1 dX12_dripping_18 (by decide) ?_
  obtain ⟨q1, hq1, hF⟩ := bnd_some hF
  refine m_callVi C X vX12_fail rfl (kX12_fail O C.2.2.2.2.1 N 1  S q1 hq1) (Nat.le_of_ble_eq_true rfl) (Nat.le_of_ble_eq_true rfl) (Nat.le_of_ble_eq_true rfl) (Nat.le_of_ble_eq_true rfl) rfl hl.1 rfl (Nat.le_of_ble_eq_true rfl) dX12_dripping_19 (fun H locs X => ?_)
  cases hF
  exact g_iret C X dX12_dripping_22
noncomputable def fX12_dripping_b0 (N : Nat) (x1 : Int32) (S : gS) : Option (Int32 × gS) := lt (sU S 99 4 0) fun S1 => (bnd (fX12_isIn N (Int32.toInt64 x1) 1 60 S1) fun q1 => (if q1.1 = 0 then fX12_dripping_b17 N q1.2 else fX12_dripping_b23 N x1 q1.2))
theorem bX12_dripping_0 {N : Nat} {x1 : Int32} {S : gS} {H : Heap} {locs : List Loc} {ls : Array Slot} {o : Int32 × gS} (C : gC p s m args meth c cX12_dripping 3 RX12 ((some .int)) D (mtys cI cS) mord g Am) (O : gO (mcell g cI cS sa) mord g) (X : gX D (mcell g cI cS sa) mord g S s H locs) (hl : lv_has ls 3 [(0, .ref (g 99)), (1, .int x1)]) (hF : fX12_dripping_b0 N x1 S = some o) : W p l e (rmd 2) s m args below meth c H locs 0 0 (gE below args s D (mtys cI cS) (mcell g cI cS sa) mord g (some (.int o.1)) o.2) (F0 m 0 ls []) := by
  unfold fX12_dripping_b0 at hF
  refine lv_aload_n C.1.1 C.1.2.1 dX12_dripping_0 rfl (lv_at hl 0 rfl) ?_
  refine lv_iconst (v := 0) C.1.1 C.1.2.1 dX12_dripping_1 (by decide) ?_
  obtain ⟨S1, eS1, hF⟩ := lt_some hF
  refine m_p4 C O X eS1 dX12_dripping_2 (fun H locs X => ?_)
  refine lv_iload_n C.1.1 C.1.2.1 dX12_dripping_5 rfl (lv_at hl 1 rfl) ?_
  refine lv_i2l (v := Int32.toInt64 x1) C.1.1 C.1.2.1 dX12_dripping_6 rfl ?_
  refine lv_lconst (v := 1) C.1.1 C.1.2.1 dX12_dripping_7 (by decide) ?_
  refine lv_ldc2 C.1.1 C.1.2.1 C.1.2.2.2.1 (C.1.2.2.2.2 _ mKL432) dX12_dripping_8 ?_
  obtain ⟨q1, hq1, hF⟩ := bnd_some hF
  refine g_callSi C X vX12_isIn (kX12_isIn O C.2.2.2.2.1 N (Int32.toInt64 x1) 1 60  S1 q1 hq1) (Nat.le_of_ble_eq_true rfl) (Nat.le_of_ble_eq_true rfl) (Nat.le_of_ble_eq_true rfl) (Nat.le_of_ble_eq_true rfl) rfl hl.1 rfl (Nat.le_of_ble_eq_true rfl) dX12_dripping_11 (fun H locs X => ?_)
  refine lv_if_ne (tgt := 23) C.1.1 C.1.2.1 dX12_dripping_14 (by decide) (fun h_z => ?_) (fun h_z => ?_)
  · rw [if_neg h_z] at hF
    exact bX12_dripping_23 C O X (lv_sub hl [0, 1] rfl) hF
  · rw [if_pos h_z] at hF
    exact bX12_dripping_17 C O X (lv_sub hl [0] rfl) hF
noncomputable def fX12_dripping (N : Nat) (x1 : Int32) (S : gS) : Option (Int32 × gS) := fX12_dripping_b0 N x1 S
theorem kX12_dripping {l : Launch} {D : va_G} {g : Nat → Nat} {cI cS : ClassId} {sa : Nat → Nat → Option Nat} {Am : (Nat → Prop) → State → Heap → Prop} (O : gO (mcell g cI cS sa) mord g) (P : gAm Am) (N : Nat) (x1 : Int32) (S : gS) (o : Int32 × gS) (hF : fX12_dripping N x1 S = some o) : gM l yX12_dripping cX12_dripping 3 ((some .int)) 2 D (mtys cI cS) (mcell g cI cS sa) mord g Am [.ref (g 99), .int x1] S (some (.int o.1)) o.2 :=
  gM_of O P (by decide) (Nat.le_of_ble_eq_true rfl) (fun p e s m args below meth c ls C X hl => bX12_dripping_0 C O X (lv_sub hl [0, 1] rfl) hF)
-- first
noncomputable def fX12_first_b66 (N : Nat) (x2 : Int32) (S : gS) : Option (Int32 × gS) := bnd (fX12_unpack N 46 0 S) fun q1 => (some (x2, q1.2))
theorem bX12_first_66 {N : Nat} {x2 : Int32} {S : gS} {H : Heap} {locs : List Loc} {ls : Array Slot} {o : Int32 × gS} (C : gC p s m args meth c cX12_first 4 RX12 ((some .int)) D (mtys cI cS) mord g Am) (O : gO (mcell g cI cS sa) mord g) (X : gX D (mcell g cI cS sa) mord g S s H locs) (hl : lv_has ls 4 [(0, .ref (g 99)), (2, .int x2)]) (hF : fX12_first_b66 N x2 S = some o) : W p l e (rmd 6) s m args below meth c H locs 0 0 (gE below args s D (mtys cI cS) (mcell g cI cS sa) mord g (some (.int o.1)) o.2) (F0 m 66 ls []) := by
  unfold fX12_first_b66 at hF
  refine lv_aload_n C.1.1 C.1.2.1 dX12_first_66 rfl (lv_at hl 0 rfl) ?_
  refine lv_aload_n C.1.1 C.1.2.1 dX12_first_67 rfl (lv_at hl 0 rfl) ?_
  refine m_g46 C X dX12_first_68 ?_
  refine lv_iconst (v := 0) C.1.1 C.1.2.1 dX12_first_71 (by decide) ?_
  obtain ⟨q1, hq1, hF⟩ := bnd_some hF
  refine m_callV C X vX12_unpack rfl (kX12_unpack O C.2.2.2.2.1 N 46 0 (rfl : mI 46 = true) S q1 hq1) (Nat.le_of_ble_eq_true rfl) (Nat.le_of_ble_eq_true rfl) (Nat.le_of_ble_eq_true rfl) (Nat.le_of_ble_eq_true rfl) rfl hl.1 rfl (Nat.le_of_ble_eq_true rfl) dX12_first_72 (fun H locs X => ?_)
  refine lv_iload_n C.1.1 C.1.2.1 dX12_first_75 rfl (lv_at hl 1 rfl) ?_
  cases hF
  exact g_iret C X dX12_first_76
noncomputable def fX12_first_b60 (N : Nat) (r32 : Int32 → Int32 → Int32 → gS → Option (Int32 × gS)) (x1 : Int32) (x2 : Int32) (x3 : Int32) (S : gS) : Option (Int32 × gS) := r32 x1 x2 ((x3 + 1 : Int32)) S
theorem bX12_first_60 {N : Nat} {r32 : Int32 → Int32 → Int32 → gS → Option (Int32 × gS)} {x1 : Int32} {x2 : Int32} {x3 : Int32} {S : gS} {H : Heap} {locs : List Loc} {ls : Array Slot} {o : Int32 × gS} (C : gC p s m args meth c cX12_first 4 RX12 ((some .int)) D (mtys cI cS) mord g Am) (O : gO (mcell g cI cS sa) mord g) (K32 : ∀ (x1 : Int32) (x2 : Int32) (x3 : Int32) (S : gS) (H : Heap) (locs : List Loc) (ls : Array Slot), gX D (mcell g cI cS sa) mord g S s H locs → lv_has ls 4 [(0, .ref (g 99)), (1, .int x1), (2, .int x2), (3, .int x3)] → r32 x1 x2 x3 S = some o → W p l e (rmd 6) s m args below meth c H locs 0 0 (gE below args s D (mtys cI cS) (mcell g cI cS sa) mord g (some (.int o.1)) o.2) (F0 m 32 ls [])) (X : gX D (mcell g cI cS sa) mord g S s H locs) (hl : lv_has ls 4 [(0, .ref (g 99)), (1, .int x1), (2, .int x2), (3, .int x3)]) (hF : fX12_first_b60 N r32 x1 x2 x3 S = some o) : W p l e (rmd 6) s m args below meth c H locs 0 0 (gE below args s D (mtys cI cS) (mcell g cI cS sa) mord g (some (.int o.1)) o.2) (F0 m 60 ls []) := by
  unfold fX12_first_b60 at hF
  refine lv_iinc (v := (x3 + 1 : Int32)) (lv' := [(3, .int ((x3 + 1 : Int32))), (0, .ref (g 99)), (1, .int x1), (2, .int x2)]) C.1.1 C.1.2.1 dX12_first_60 hl (k := 3) rfl rfl (by decide) rfl (fun ls hl => ?_)
  refine lv_goto (tgt := 32) C.1.1 C.1.2.1 dX12_first_63 (by decide) ?_
  exact K32 _ _ _ _ _ _ _ X (lv_sub hl [1, 2, 3, 0] rfl) hF
noncomputable def fX12_first_b58 (N : Nat) (r32 : Int32 → Int32 → Int32 → gS → Option (Int32 × gS)) (x1 : Int32) (x3 : Int32) (S : gS) : Option (Int32 × gS) := fX12_first_b60 N r32 x1 x3 x3 S
theorem bX12_first_58 {N : Nat} {r32 : Int32 → Int32 → Int32 → gS → Option (Int32 × gS)} {x1 : Int32} {x3 : Int32} {S : gS} {H : Heap} {locs : List Loc} {ls : Array Slot} {o : Int32 × gS} (C : gC p s m args meth c cX12_first 4 RX12 ((some .int)) D (mtys cI cS) mord g Am) (O : gO (mcell g cI cS sa) mord g) (K32 : ∀ (x1 : Int32) (x2 : Int32) (x3 : Int32) (S : gS) (H : Heap) (locs : List Loc) (ls : Array Slot), gX D (mcell g cI cS sa) mord g S s H locs → lv_has ls 4 [(0, .ref (g 99)), (1, .int x1), (2, .int x2), (3, .int x3)] → r32 x1 x2 x3 S = some o → W p l e (rmd 6) s m args below meth c H locs 0 0 (gE below args s D (mtys cI cS) (mcell g cI cS sa) mord g (some (.int o.1)) o.2) (F0 m 32 ls [])) (X : gX D (mcell g cI cS sa) mord g S s H locs) (hl : lv_has ls 4 [(0, .ref (g 99)), (1, .int x1), (3, .int x3)]) (hF : fX12_first_b58 N r32 x1 x3 S = some o) : W p l e (rmd 6) s m args below meth c H locs 0 0 (gE below args s D (mtys cI cS) (mcell g cI cS sa) mord g (some (.int o.1)) o.2) (F0 m 58 ls []) := by
  unfold fX12_first_b58 at hF
  refine lv_iload_n C.1.1 C.1.2.1 dX12_first_58 rfl (lv_at hl 2 rfl) ?_
  refine lv_istore_n (lv' := [(2, .int x3), (0, .ref (g 99)), (1, .int x1), (3, .int x3)]) C.1.1 C.1.2.1 dX12_first_59 rfl hl (by decide) rfl (fun ls hl => ?_)
  exact bX12_first_60 C O K32 X (lv_sub hl [1, 2, 0, 3] rfl) hF
noncomputable def fX12_first_b43 (N : Nat) (r32 : Int32 → Int32 → Int32 → gS → Option (Int32 × gS)) (x1 : Int32) (x2 : Int32) (x3 : Int32) (S : gS) : Option (Int32 × gS) := bnd (fX12_anHour N  S) fun q1 => (bnd (fX12_isOf N (q1.2 99 45) x1 q1.2) fun q2 => (if q2.1 = 0 then fX12_first_b60 N r32 x1 x2 x3 q2.2 else fX12_first_b58 N r32 x1 x3 q2.2))
theorem bX12_first_43 {N : Nat} {r32 : Int32 → Int32 → Int32 → gS → Option (Int32 × gS)} {x1 : Int32} {x2 : Int32} {x3 : Int32} {S : gS} {H : Heap} {locs : List Loc} {ls : Array Slot} {o : Int32 × gS} (C : gC p s m args meth c cX12_first 4 RX12 ((some .int)) D (mtys cI cS) mord g Am) (O : gO (mcell g cI cS sa) mord g) (K32 : ∀ (x1 : Int32) (x2 : Int32) (x3 : Int32) (S : gS) (H : Heap) (locs : List Loc) (ls : Array Slot), gX D (mcell g cI cS sa) mord g S s H locs → lv_has ls 4 [(0, .ref (g 99)), (1, .int x1), (2, .int x2), (3, .int x3)] → r32 x1 x2 x3 S = some o → W p l e (rmd 6) s m args below meth c H locs 0 0 (gE below args s D (mtys cI cS) (mcell g cI cS sa) mord g (some (.int o.1)) o.2) (F0 m 32 ls [])) (X : gX D (mcell g cI cS sa) mord g S s H locs) (hl : lv_has ls 4 [(0, .ref (g 99)), (1, .int x1), (2, .int x2), (3, .int x3)]) (hF : fX12_first_b43 N r32 x1 x2 x3 S = some o) : W p l e (rmd 6) s m args below meth c H locs 0 0 (gE below args s D (mtys cI cS) (mcell g cI cS sa) mord g (some (.int o.1)) o.2) (F0 m 43 ls []) := by
  unfold fX12_first_b43 at hF
  refine lv_aload_n C.1.1 C.1.2.1 dX12_first_43 rfl (lv_at hl 0 rfl) ?_
  obtain ⟨q1, hq1, hF⟩ := bnd_some hF
  refine m_callV C X vX12_anHour rfl (kX12_anHour O C.2.2.2.2.1 N   S q1 hq1) (Nat.le_of_ble_eq_true rfl) (Nat.le_of_ble_eq_true rfl) (Nat.le_of_ble_eq_true rfl) (Nat.le_of_ble_eq_true rfl) rfl hl.1 rfl (Nat.le_of_ble_eq_true rfl) dX12_first_44 (fun H locs X => ?_)
  refine lv_aload_n C.1.1 C.1.2.1 dX12_first_47 rfl (lv_at hl 0 rfl) ?_
  refine m_g45 C X dX12_first_48 ?_
  refine lv_iload_n C.1.1 C.1.2.1 dX12_first_51 rfl (lv_at hl 1 rfl) ?_
  obtain ⟨q2, hq2, hF⟩ := bnd_some hF
  refine g_callSi C X vX12_isOf (kX12_isOf O C.2.2.2.2.1 N (q1.2 99 45) x1  q1.2 q2 hq2) (Nat.le_of_ble_eq_true rfl) (Nat.le_of_ble_eq_true rfl) (Nat.le_of_ble_eq_true rfl) (Nat.le_of_ble_eq_true rfl) rfl hl.1 rfl (Nat.le_of_ble_eq_true rfl) dX12_first_52 (fun H locs X => ?_)
  refine lv_if_eq (tgt := 60) C.1.1 C.1.2.1 dX12_first_55 (by decide) (fun h_z => ?_) (fun h_z => ?_)
  · rw [if_pos h_z] at hF
    exact bX12_first_60 C O K32 X (lv_sub hl [0, 1, 2, 3] rfl) hF
  · rw [if_neg h_z] at hF
    exact bX12_first_58 C O K32 X (lv_sub hl [0, 1, 3] rfl) hF
noncomputable def fX12_first_b38 (N : Nat) (r32 : Int32 → Int32 → Int32 → gS → Option (Int32 × gS)) (x1 : Int32) (x2 : Int32) (x3 : Int32) (S : gS) : Option (Int32 × gS) := if x2 = ((-1)) then fX12_first_b43 N r32 x1 x2 x3 S else fX12_first_b66 N x2 S
theorem bX12_first_38 {N : Nat} {r32 : Int32 → Int32 → Int32 → gS → Option (Int32 × gS)} {x1 : Int32} {x2 : Int32} {x3 : Int32} {S : gS} {H : Heap} {locs : List Loc} {ls : Array Slot} {o : Int32 × gS} (C : gC p s m args meth c cX12_first 4 RX12 ((some .int)) D (mtys cI cS) mord g Am) (O : gO (mcell g cI cS sa) mord g) (K32 : ∀ (x1 : Int32) (x2 : Int32) (x3 : Int32) (S : gS) (H : Heap) (locs : List Loc) (ls : Array Slot), gX D (mcell g cI cS sa) mord g S s H locs → lv_has ls 4 [(0, .ref (g 99)), (1, .int x1), (2, .int x2), (3, .int x3)] → r32 x1 x2 x3 S = some o → W p l e (rmd 6) s m args below meth c H locs 0 0 (gE below args s D (mtys cI cS) (mcell g cI cS sa) mord g (some (.int o.1)) o.2) (F0 m 32 ls [])) (X : gX D (mcell g cI cS sa) mord g S s H locs) (hl : lv_has ls 4 [(0, .ref (g 99)), (1, .int x1), (2, .int x2), (3, .int x3)]) (hF : fX12_first_b38 N r32 x1 x2 x3 S = some o) : W p l e (rmd 6) s m args below meth c H locs 0 0 (gE below args s D (mtys cI cS) (mcell g cI cS sa) mord g (some (.int o.1)) o.2) (F0 m 38 ls []) := by
  unfold fX12_first_b38 at hF
  refine lv_iload_n C.1.1 C.1.2.1 dX12_first_38 rfl (lv_at hl 2 rfl) ?_
  refine lv_iconst (v := (-1)) C.1.1 C.1.2.1 dX12_first_39 (by decide) ?_
  refine lv_icmp_ne (tgt := 66) C.1.1 C.1.2.1 dX12_first_40 (by decide) (fun h_z => ?_) (fun h_z => ?_)
  · rw [if_neg h_z] at hF
    exact bX12_first_66 C O X (lv_sub hl [0, 2] rfl) hF
  · rw [if_pos h_z] at hF
    exact bX12_first_43 C O K32 X (lv_sub hl [0, 1, 2, 3] rfl) hF
noncomputable def fX12_first_b32 (N : Nat) (r32 : Int32 → Int32 → Int32 → gS → Option (Int32 × gS)) (x1 : Int32) (x2 : Int32) (x3 : Int32) (S : gS) : Option (Int32 × gS) := if 60 < x3 then fX12_first_b66 N x2 S else fX12_first_b38 N r32 x1 x2 x3 S
theorem bX12_first_32 {N : Nat} {r32 : Int32 → Int32 → Int32 → gS → Option (Int32 × gS)} {x1 : Int32} {x2 : Int32} {x3 : Int32} {S : gS} {H : Heap} {locs : List Loc} {ls : Array Slot} {o : Int32 × gS} (C : gC p s m args meth c cX12_first 4 RX12 ((some .int)) D (mtys cI cS) mord g Am) (O : gO (mcell g cI cS sa) mord g) (K32 : ∀ (x1 : Int32) (x2 : Int32) (x3 : Int32) (S : gS) (H : Heap) (locs : List Loc) (ls : Array Slot), gX D (mcell g cI cS sa) mord g S s H locs → lv_has ls 4 [(0, .ref (g 99)), (1, .int x1), (2, .int x2), (3, .int x3)] → r32 x1 x2 x3 S = some o → W p l e (rmd 6) s m args below meth c H locs 0 0 (gE below args s D (mtys cI cS) (mcell g cI cS sa) mord g (some (.int o.1)) o.2) (F0 m 32 ls [])) (X : gX D (mcell g cI cS sa) mord g S s H locs) (hl : lv_has ls 4 [(0, .ref (g 99)), (1, .int x1), (2, .int x2), (3, .int x3)]) (hF : fX12_first_b32 N r32 x1 x2 x3 S = some o) : W p l e (rmd 6) s m args below meth c H locs 0 0 (gE below args s D (mtys cI cS) (mcell g cI cS sa) mord g (some (.int o.1)) o.2) (F0 m 32 ls []) := by
  unfold fX12_first_b32 at hF
  refine lv_iload_n C.1.1 C.1.2.1 dX12_first_32 rfl (lv_at hl 3 rfl) ?_
  refine lv_bipush (v := 60) C.1.1 C.1.2.1 dX12_first_33 (by decide) ?_
  refine lv_icmp_gt (tgt := 66) C.1.1 C.1.2.1 dX12_first_35 (by decide) (fun h_z => ?_) (fun h_z => ?_)
  · rw [if_pos h_z] at hF
    exact bX12_first_66 C O X (lv_sub hl [0, 2] rfl) hF
  · rw [if_neg h_z] at hF
    exact bX12_first_38 C O K32 X (lv_sub hl [0, 1, 2, 3] rfl) hF
noncomputable def fX12_first_h32 (N : Nat) : Nat → Int32 → Int32 → Int32 → gS → Option (Int32 × gS)
  | 0, _, _, _, _ => none
  | n + 1, x1, x2, x3, S => fX12_first_b32 N (fX12_first_h32 N n) x1 x2 x3 S
theorem hX12_first_32 {N : Nat} {o : Int32 × gS} (C : gC p s m args meth c cX12_first 4 RX12 ((some .int)) D (mtys cI cS) mord g Am) (O : gO (mcell g cI cS sa) mord g) : ∀ (n : Nat) (x1 : Int32) (x2 : Int32) (x3 : Int32) (S : gS) (H : Heap) (locs : List Loc) (ls : Array Slot), gX D (mcell g cI cS sa) mord g S s H locs → lv_has ls 4 [(0, .ref (g 99)), (1, .int x1), (2, .int x2), (3, .int x3)] → fX12_first_h32 N n x1 x2 x3 S = some o → W p l e (rmd 6) s m args below meth c H locs 0 0 (gE below args s D (mtys cI cS) (mcell g cI cS sa) mord g (some (.int o.1)) o.2) (F0 m 32 ls []) := by
  intro n
  induction n with
  | zero =>
    intro x1 x2 x3 S H locs ls X hl hF
    exact absurd (show (none : Option (Int32 × gS)) = some o from hF) (by simp)
  | succ n ih =>
    intro x1 x2 x3 S H locs ls X hl hF
    have hF : fX12_first_b32 N (fX12_first_h32 N n) x1 x2 x3 S = some o := hF
    exact bX12_first_32 C O ih X hl hF
noncomputable def fX12_first_b19 (N : Nat) (x1 : Int32) (S : gS) : Option (Int32 × gS) := bnd (fX12_pack N 46 0 S) fun q1 => (fX12_first_h32 N N x1 ((-1)) 1 q1.2)
theorem bX12_first_19 {N : Nat} {x1 : Int32} {S : gS} {H : Heap} {locs : List Loc} {ls : Array Slot} {o : Int32 × gS} (C : gC p s m args meth c cX12_first 4 RX12 ((some .int)) D (mtys cI cS) mord g Am) (O : gO (mcell g cI cS sa) mord g) (X : gX D (mcell g cI cS sa) mord g S s H locs) (hl : lv_has ls 4 [(0, .ref (g 99)), (1, .int x1)]) (hF : fX12_first_b19 N x1 S = some o) : W p l e (rmd 6) s m args below meth c H locs 0 0 (gE below args s D (mtys cI cS) (mcell g cI cS sa) mord g (some (.int o.1)) o.2) (F0 m 19 ls []) := by
  unfold fX12_first_b19 at hF
  refine lv_aload_n C.1.1 C.1.2.1 dX12_first_19 rfl (lv_at hl 0 rfl) ?_
  refine lv_aload_n C.1.1 C.1.2.1 dX12_first_20 rfl (lv_at hl 0 rfl) ?_
  refine m_g46 C X dX12_first_21 ?_
  refine lv_iconst (v := 0) C.1.1 C.1.2.1 dX12_first_24 (by decide) ?_
  obtain ⟨q1, hq1, hF⟩ := bnd_some hF
  refine m_callV C X vX12_pack rfl (kX12_pack O C.2.2.2.2.1 N 46 0 (rfl : mI 46 = true) S q1 hq1) (Nat.le_of_ble_eq_true rfl) (Nat.le_of_ble_eq_true rfl) (Nat.le_of_ble_eq_true rfl) (Nat.le_of_ble_eq_true rfl) rfl hl.1 rfl (Nat.le_of_ble_eq_true rfl) dX12_first_25 (fun H locs X => ?_)
  refine lv_iconst (v := (-1)) C.1.1 C.1.2.1 dX12_first_28 (by decide) ?_
  refine lv_istore_n (lv' := [(2, .int ((-1))), (0, .ref (g 99)), (1, .int x1)]) C.1.1 C.1.2.1 dX12_first_29 rfl hl (by decide) rfl (fun ls hl => ?_)
  refine lv_iconst (v := 1) C.1.1 C.1.2.1 dX12_first_30 (by decide) ?_
  refine lv_istore_n (lv' := [(3, .int 1), (2, .int ((-1))), (0, .ref (g 99)), (1, .int x1)]) C.1.1 C.1.2.1 dX12_first_31 rfl hl (by decide) rfl (fun ls hl => ?_)
  exact hX12_first_32 C O N _ _ _ _ _ _ _ X (lv_sub hl [2, 3, 1, 0] rfl) hF
noncomputable def fX12_first_b13 (N : Nat) (S : gS) : Option (Int32 × gS) := bnd (fX12_fail N 1 S) fun q1 => (some (q1.1, q1.2))
theorem bX12_first_13 {N : Nat} {S : gS} {H : Heap} {locs : List Loc} {ls : Array Slot} {o : Int32 × gS} (C : gC p s m args meth c cX12_first 4 RX12 ((some .int)) D (mtys cI cS) mord g Am) (O : gO (mcell g cI cS sa) mord g) (X : gX D (mcell g cI cS sa) mord g S s H locs) (hl : lv_has ls 4 [(0, .ref (g 99))]) (hF : fX12_first_b13 N S = some o) : W p l e (rmd 6) s m args below meth c H locs 0 0 (gE below args s D (mtys cI cS) (mcell g cI cS sa) mord g (some (.int o.1)) o.2) (F0 m 13 ls []) := by
  unfold fX12_first_b13 at hF
  refine lv_aload_n C.1.1 C.1.2.1 dX12_first_13 rfl (lv_at hl 0 rfl) ?_
  refine lv_iconst (v := 1) C.1.1 C.1.2.1 dX12_first_14 (by decide) ?_
  obtain ⟨q1, hq1, hF⟩ := bnd_some hF
  refine m_callVi C X vX12_fail rfl (kX12_fail O C.2.2.2.2.1 N 1  S q1 hq1) (Nat.le_of_ble_eq_true rfl) (Nat.le_of_ble_eq_true rfl) (Nat.le_of_ble_eq_true rfl) (Nat.le_of_ble_eq_true rfl) rfl hl.1 rfl (Nat.le_of_ble_eq_true rfl) dX12_first_15 (fun H locs X => ?_)
  cases hF
  exact g_iret C X dX12_first_18
noncomputable def fX12_first_b0 (N : Nat) (x1 : Int32) (S : gS) : Option (Int32 × gS) := lt (sU S 99 4 0) fun S1 => (bnd (fX12_isGuild N x1 S1) fun q1 => (if q1.1 = 0 then fX12_first_b13 N q1.2 else fX12_first_b19 N x1 q1.2))
theorem bX12_first_0 {N : Nat} {x1 : Int32} {S : gS} {H : Heap} {locs : List Loc} {ls : Array Slot} {o : Int32 × gS} (C : gC p s m args meth c cX12_first 4 RX12 ((some .int)) D (mtys cI cS) mord g Am) (O : gO (mcell g cI cS sa) mord g) (X : gX D (mcell g cI cS sa) mord g S s H locs) (hl : lv_has ls 4 [(0, .ref (g 99)), (1, .int x1)]) (hF : fX12_first_b0 N x1 S = some o) : W p l e (rmd 6) s m args below meth c H locs 0 0 (gE below args s D (mtys cI cS) (mcell g cI cS sa) mord g (some (.int o.1)) o.2) (F0 m 0 ls []) := by
  unfold fX12_first_b0 at hF
  refine lv_aload_n C.1.1 C.1.2.1 dX12_first_0 rfl (lv_at hl 0 rfl) ?_
  refine lv_iconst (v := 0) C.1.1 C.1.2.1 dX12_first_1 (by decide) ?_
  obtain ⟨S1, eS1, hF⟩ := lt_some hF
  refine m_p4 C O X eS1 dX12_first_2 (fun H locs X => ?_)
  refine lv_aload_n C.1.1 C.1.2.1 dX12_first_5 rfl (lv_at hl 0 rfl) ?_
  refine lv_iload_n C.1.1 C.1.2.1 dX12_first_6 rfl (lv_at hl 1 rfl) ?_
  obtain ⟨q1, hq1, hF⟩ := bnd_some hF
  refine m_callVi C X vX12_isGuild rfl (kX12_isGuild O C.2.2.2.2.1 N x1  S1 q1 hq1) (Nat.le_of_ble_eq_true rfl) (Nat.le_of_ble_eq_true rfl) (Nat.le_of_ble_eq_true rfl) (Nat.le_of_ble_eq_true rfl) rfl hl.1 rfl (Nat.le_of_ble_eq_true rfl) dX12_first_7 (fun H locs X => ?_)
  refine lv_if_ne (tgt := 19) C.1.1 C.1.2.1 dX12_first_10 (by decide) (fun h_z => ?_) (fun h_z => ?_)
  · rw [if_neg h_z] at hF
    exact bX12_first_19 C O X (lv_sub hl [0, 1] rfl) hF
  · rw [if_pos h_z] at hF
    exact bX12_first_13 C O X (lv_sub hl [0] rfl) hF
noncomputable def fX12_first (N : Nat) (x1 : Int32) (S : gS) : Option (Int32 × gS) := fX12_first_b0 N x1 S
theorem kX12_first {l : Launch} {D : va_G} {g : Nat → Nat} {cI cS : ClassId} {sa : Nat → Nat → Option Nat} {Am : (Nat → Prop) → State → Heap → Prop} (O : gO (mcell g cI cS sa) mord g) (P : gAm Am) (N : Nat) (x1 : Int32) (S : gS) (o : Int32 × gS) (hF : fX12_first N x1 S = some o) : gM l yX12_first cX12_first 4 ((some .int)) 6 D (mtys cI cS) (mcell g cI cS sa) mord g Am [.ref (g 99), .int x1] S (some (.int o.1)) o.2 :=
  gM_of O P (by decide) (Nat.le_of_ble_eq_true rfl) (fun p e s m args below meth c ls C X hl => bX12_first_0 C O X (lv_sub hl [0, 1] rfl) hF)
-- dismissed
noncomputable def fX12_dismissed_b75 (N : Nat) (x2 : Int32) (S : gS) : Option (Int32 × gS) := bnd (fX12_unpack N 46 0 S) fun q1 => (some (x2, q1.2))
theorem bX12_dismissed_75 {N : Nat} {x2 : Int32} {S : gS} {H : Heap} {locs : List Loc} {ls : Array Slot} {o : Int32 × gS} (C : gC p s m args meth c cX12_dismissed 4 RX12 ((some .int)) D (mtys cI cS) mord g Am) (O : gO (mcell g cI cS sa) mord g) (X : gX D (mcell g cI cS sa) mord g S s H locs) (hl : lv_has ls 4 [(0, .ref (g 99)), (2, .int x2)]) (hF : fX12_dismissed_b75 N x2 S = some o) : W p l e (rmd 6) s m args below meth c H locs 0 0 (gE below args s D (mtys cI cS) (mcell g cI cS sa) mord g (some (.int o.1)) o.2) (F0 m 75 ls []) := by
  unfold fX12_dismissed_b75 at hF
  refine lv_aload_n C.1.1 C.1.2.1 dX12_dismissed_75 rfl (lv_at hl 0 rfl) ?_
  refine lv_aload_n C.1.1 C.1.2.1 dX12_dismissed_76 rfl (lv_at hl 0 rfl) ?_
  refine m_g46 C X dX12_dismissed_77 ?_
  refine lv_iconst (v := 0) C.1.1 C.1.2.1 dX12_dismissed_80 (by decide) ?_
  obtain ⟨q1, hq1, hF⟩ := bnd_some hF
  refine m_callV C X vX12_unpack rfl (kX12_unpack O C.2.2.2.2.1 N 46 0 (rfl : mI 46 = true) S q1 hq1) (Nat.le_of_ble_eq_true rfl) (Nat.le_of_ble_eq_true rfl) (Nat.le_of_ble_eq_true rfl) (Nat.le_of_ble_eq_true rfl) rfl hl.1 rfl (Nat.le_of_ble_eq_true rfl) dX12_dismissed_81 (fun H locs X => ?_)
  refine lv_iload_n C.1.1 C.1.2.1 dX12_dismissed_84 rfl (lv_at hl 1 rfl) ?_
  cases hF
  exact g_iret C X dX12_dismissed_85
noncomputable def fX12_dismissed_b69 (N : Nat) (r32 : Int32 → Int32 → Int32 → gS → Option (Int32 × gS)) (x1 : Int32) (x2 : Int32) (x3 : Int32) (S : gS) : Option (Int32 × gS) := r32 x1 x2 ((x3 + 1 : Int32)) S
theorem bX12_dismissed_69 {N : Nat} {r32 : Int32 → Int32 → Int32 → gS → Option (Int32 × gS)} {x1 : Int32} {x2 : Int32} {x3 : Int32} {S : gS} {H : Heap} {locs : List Loc} {ls : Array Slot} {o : Int32 × gS} (C : gC p s m args meth c cX12_dismissed 4 RX12 ((some .int)) D (mtys cI cS) mord g Am) (O : gO (mcell g cI cS sa) mord g) (K32 : ∀ (x1 : Int32) (x2 : Int32) (x3 : Int32) (S : gS) (H : Heap) (locs : List Loc) (ls : Array Slot), gX D (mcell g cI cS sa) mord g S s H locs → lv_has ls 4 [(0, .ref (g 99)), (1, .int x1), (2, .int x2), (3, .int x3)] → r32 x1 x2 x3 S = some o → W p l e (rmd 6) s m args below meth c H locs 0 0 (gE below args s D (mtys cI cS) (mcell g cI cS sa) mord g (some (.int o.1)) o.2) (F0 m 32 ls [])) (X : gX D (mcell g cI cS sa) mord g S s H locs) (hl : lv_has ls 4 [(0, .ref (g 99)), (1, .int x1), (2, .int x2), (3, .int x3)]) (hF : fX12_dismissed_b69 N r32 x1 x2 x3 S = some o) : W p l e (rmd 6) s m args below meth c H locs 0 0 (gE below args s D (mtys cI cS) (mcell g cI cS sa) mord g (some (.int o.1)) o.2) (F0 m 69 ls []) := by
  unfold fX12_dismissed_b69 at hF
  refine lv_iinc (v := (x3 + 1 : Int32)) (lv' := [(3, .int ((x3 + 1 : Int32))), (0, .ref (g 99)), (1, .int x1), (2, .int x2)]) C.1.1 C.1.2.1 dX12_dismissed_69 hl (k := 3) rfl rfl (by decide) rfl (fun ls hl => ?_)
  refine lv_goto (tgt := 32) C.1.1 C.1.2.1 dX12_dismissed_72 (by decide) ?_
  exact K32 _ _ _ _ _ _ _ X (lv_sub hl [1, 2, 3, 0] rfl) hF
noncomputable def fX12_dismissed_b67 (N : Nat) (r32 : Int32 → Int32 → Int32 → gS → Option (Int32 × gS)) (x1 : Int32) (x3 : Int32) (S : gS) : Option (Int32 × gS) := fX12_dismissed_b69 N r32 x1 x3 x3 S
theorem bX12_dismissed_67 {N : Nat} {r32 : Int32 → Int32 → Int32 → gS → Option (Int32 × gS)} {x1 : Int32} {x3 : Int32} {S : gS} {H : Heap} {locs : List Loc} {ls : Array Slot} {o : Int32 × gS} (C : gC p s m args meth c cX12_dismissed 4 RX12 ((some .int)) D (mtys cI cS) mord g Am) (O : gO (mcell g cI cS sa) mord g) (K32 : ∀ (x1 : Int32) (x2 : Int32) (x3 : Int32) (S : gS) (H : Heap) (locs : List Loc) (ls : Array Slot), gX D (mcell g cI cS sa) mord g S s H locs → lv_has ls 4 [(0, .ref (g 99)), (1, .int x1), (2, .int x2), (3, .int x3)] → r32 x1 x2 x3 S = some o → W p l e (rmd 6) s m args below meth c H locs 0 0 (gE below args s D (mtys cI cS) (mcell g cI cS sa) mord g (some (.int o.1)) o.2) (F0 m 32 ls [])) (X : gX D (mcell g cI cS sa) mord g S s H locs) (hl : lv_has ls 4 [(0, .ref (g 99)), (1, .int x1), (3, .int x3)]) (hF : fX12_dismissed_b67 N r32 x1 x3 S = some o) : W p l e (rmd 6) s m args below meth c H locs 0 0 (gE below args s D (mtys cI cS) (mcell g cI cS sa) mord g (some (.int o.1)) o.2) (F0 m 67 ls []) := by
  unfold fX12_dismissed_b67 at hF
  refine lv_iload_n C.1.1 C.1.2.1 dX12_dismissed_67 rfl (lv_at hl 2 rfl) ?_
  refine lv_istore_n (lv' := [(2, .int x3), (0, .ref (g 99)), (1, .int x1), (3, .int x3)]) C.1.1 C.1.2.1 dX12_dismissed_68 rfl hl (by decide) rfl (fun ls hl => ?_)
  exact bX12_dismissed_69 C O K32 X (lv_sub hl [1, 2, 0, 3] rfl) hF
noncomputable def fX12_dismissed_b53 (N : Nat) (r32 : Int32 → Int32 → Int32 → gS → Option (Int32 × gS)) (x1 : Int32) (x2 : Int32) (x3 : Int32) (S : gS) : Option (Int32 × gS) := bnd (fX12_anHour N  S) fun q1 => (chk (inb x1 (6)) (if (q1.2 35 (Int32.toNatClampNeg x1)) = ((-1)) then fX12_dismissed_b67 N r32 x1 x3 q1.2 else fX12_dismissed_b69 N r32 x1 x2 x3 q1.2))
theorem bX12_dismissed_53 {N : Nat} {r32 : Int32 → Int32 → Int32 → gS → Option (Int32 × gS)} {x1 : Int32} {x2 : Int32} {x3 : Int32} {S : gS} {H : Heap} {locs : List Loc} {ls : Array Slot} {o : Int32 × gS} (C : gC p s m args meth c cX12_dismissed 4 RX12 ((some .int)) D (mtys cI cS) mord g Am) (O : gO (mcell g cI cS sa) mord g) (K32 : ∀ (x1 : Int32) (x2 : Int32) (x3 : Int32) (S : gS) (H : Heap) (locs : List Loc) (ls : Array Slot), gX D (mcell g cI cS sa) mord g S s H locs → lv_has ls 4 [(0, .ref (g 99)), (1, .int x1), (2, .int x2), (3, .int x3)] → r32 x1 x2 x3 S = some o → W p l e (rmd 6) s m args below meth c H locs 0 0 (gE below args s D (mtys cI cS) (mcell g cI cS sa) mord g (some (.int o.1)) o.2) (F0 m 32 ls [])) (X : gX D (mcell g cI cS sa) mord g S s H locs) (hl : lv_has ls 4 [(0, .ref (g 99)), (1, .int x1), (2, .int x2), (3, .int x3)]) (hF : fX12_dismissed_b53 N r32 x1 x2 x3 S = some o) : W p l e (rmd 6) s m args below meth c H locs 0 0 (gE below args s D (mtys cI cS) (mcell g cI cS sa) mord g (some (.int o.1)) o.2) (F0 m 53 ls []) := by
  unfold fX12_dismissed_b53 at hF
  refine lv_aload_n C.1.1 C.1.2.1 dX12_dismissed_53 rfl (lv_at hl 0 rfl) ?_
  obtain ⟨q1, hq1, hF⟩ := bnd_some hF
  refine m_callV C X vX12_anHour rfl (kX12_anHour O C.2.2.2.2.1 N   S q1 hq1) (Nat.le_of_ble_eq_true rfl) (Nat.le_of_ble_eq_true rfl) (Nat.le_of_ble_eq_true rfl) (Nat.le_of_ble_eq_true rfl) rfl hl.1 rfl (Nat.le_of_ble_eq_true rfl) dX12_dismissed_54 (fun H locs X => ?_)
  refine lv_aload_n C.1.1 C.1.2.1 dX12_dismissed_57 rfl (lv_at hl 0 rfl) ?_
  refine m_g35 C X dX12_dismissed_58 ?_
  refine lv_iload_n C.1.1 C.1.2.1 dX12_dismissed_61 rfl (lv_at hl 1 rfl) ?_
  obtain ⟨h_1, hF⟩ := chk_some hF
  refine m_r35 C X  (inb_vp h_1) rfl dX12_dismissed_62 ?_
  refine lv_iconst (v := (-1)) C.1.1 C.1.2.1 dX12_dismissed_63 (by decide) ?_
  refine lv_icmp_ne (tgt := 69) C.1.1 C.1.2.1 dX12_dismissed_64 (by decide) (fun h_z => ?_) (fun h_z => ?_)
  · rw [if_neg h_z] at hF
    exact bX12_dismissed_69 C O K32 X (lv_sub hl [0, 1, 2, 3] rfl) hF
  · rw [if_pos h_z] at hF
    exact bX12_dismissed_67 C O K32 X (lv_sub hl [0, 1, 3] rfl) hF
noncomputable def fX12_dismissed_b43 (N : Nat) (r32 : Int32 → Int32 → Int32 → gS → Option (Int32 × gS)) (x1 : Int32) (x2 : Int32) (x3 : Int32) (S : gS) : Option (Int32 × gS) := chk (inb x1 (6)) (if (S 35 (Int32.toNatClampNeg x1)) = ((-1)) then fX12_dismissed_b75 N x2 S else fX12_dismissed_b53 N r32 x1 x2 x3 S)
theorem bX12_dismissed_43 {N : Nat} {r32 : Int32 → Int32 → Int32 → gS → Option (Int32 × gS)} {x1 : Int32} {x2 : Int32} {x3 : Int32} {S : gS} {H : Heap} {locs : List Loc} {ls : Array Slot} {o : Int32 × gS} (C : gC p s m args meth c cX12_dismissed 4 RX12 ((some .int)) D (mtys cI cS) mord g Am) (O : gO (mcell g cI cS sa) mord g) (K32 : ∀ (x1 : Int32) (x2 : Int32) (x3 : Int32) (S : gS) (H : Heap) (locs : List Loc) (ls : Array Slot), gX D (mcell g cI cS sa) mord g S s H locs → lv_has ls 4 [(0, .ref (g 99)), (1, .int x1), (2, .int x2), (3, .int x3)] → r32 x1 x2 x3 S = some o → W p l e (rmd 6) s m args below meth c H locs 0 0 (gE below args s D (mtys cI cS) (mcell g cI cS sa) mord g (some (.int o.1)) o.2) (F0 m 32 ls [])) (X : gX D (mcell g cI cS sa) mord g S s H locs) (hl : lv_has ls 4 [(0, .ref (g 99)), (1, .int x1), (2, .int x2), (3, .int x3)]) (hF : fX12_dismissed_b43 N r32 x1 x2 x3 S = some o) : W p l e (rmd 6) s m args below meth c H locs 0 0 (gE below args s D (mtys cI cS) (mcell g cI cS sa) mord g (some (.int o.1)) o.2) (F0 m 43 ls []) := by
  unfold fX12_dismissed_b43 at hF
  refine lv_aload_n C.1.1 C.1.2.1 dX12_dismissed_43 rfl (lv_at hl 0 rfl) ?_
  refine m_g35 C X dX12_dismissed_44 ?_
  refine lv_iload_n C.1.1 C.1.2.1 dX12_dismissed_47 rfl (lv_at hl 1 rfl) ?_
  obtain ⟨h_1, hF⟩ := chk_some hF
  refine m_r35 C X  (inb_vp h_1) rfl dX12_dismissed_48 ?_
  refine lv_iconst (v := (-1)) C.1.1 C.1.2.1 dX12_dismissed_49 (by decide) ?_
  refine lv_icmp_eq (tgt := 75) C.1.1 C.1.2.1 dX12_dismissed_50 (by decide) (fun h_z => ?_) (fun h_z => ?_)
  · rw [if_pos h_z] at hF
    exact bX12_dismissed_75 C O X (lv_sub hl [0, 2] rfl) hF
  · rw [if_neg h_z] at hF
    exact bX12_dismissed_53 C O K32 X (lv_sub hl [0, 1, 2, 3] rfl) hF
noncomputable def fX12_dismissed_b38 (N : Nat) (r32 : Int32 → Int32 → Int32 → gS → Option (Int32 × gS)) (x1 : Int32) (x2 : Int32) (x3 : Int32) (S : gS) : Option (Int32 × gS) := if x2 = ((-1)) then fX12_dismissed_b43 N r32 x1 x2 x3 S else fX12_dismissed_b75 N x2 S
theorem bX12_dismissed_38 {N : Nat} {r32 : Int32 → Int32 → Int32 → gS → Option (Int32 × gS)} {x1 : Int32} {x2 : Int32} {x3 : Int32} {S : gS} {H : Heap} {locs : List Loc} {ls : Array Slot} {o : Int32 × gS} (C : gC p s m args meth c cX12_dismissed 4 RX12 ((some .int)) D (mtys cI cS) mord g Am) (O : gO (mcell g cI cS sa) mord g) (K32 : ∀ (x1 : Int32) (x2 : Int32) (x3 : Int32) (S : gS) (H : Heap) (locs : List Loc) (ls : Array Slot), gX D (mcell g cI cS sa) mord g S s H locs → lv_has ls 4 [(0, .ref (g 99)), (1, .int x1), (2, .int x2), (3, .int x3)] → r32 x1 x2 x3 S = some o → W p l e (rmd 6) s m args below meth c H locs 0 0 (gE below args s D (mtys cI cS) (mcell g cI cS sa) mord g (some (.int o.1)) o.2) (F0 m 32 ls [])) (X : gX D (mcell g cI cS sa) mord g S s H locs) (hl : lv_has ls 4 [(0, .ref (g 99)), (1, .int x1), (2, .int x2), (3, .int x3)]) (hF : fX12_dismissed_b38 N r32 x1 x2 x3 S = some o) : W p l e (rmd 6) s m args below meth c H locs 0 0 (gE below args s D (mtys cI cS) (mcell g cI cS sa) mord g (some (.int o.1)) o.2) (F0 m 38 ls []) := by
  unfold fX12_dismissed_b38 at hF
  refine lv_iload_n C.1.1 C.1.2.1 dX12_dismissed_38 rfl (lv_at hl 2 rfl) ?_
  refine lv_iconst (v := (-1)) C.1.1 C.1.2.1 dX12_dismissed_39 (by decide) ?_
  refine lv_icmp_ne (tgt := 75) C.1.1 C.1.2.1 dX12_dismissed_40 (by decide) (fun h_z => ?_) (fun h_z => ?_)
  · rw [if_neg h_z] at hF
    exact bX12_dismissed_75 C O X (lv_sub hl [0, 2] rfl) hF
  · rw [if_pos h_z] at hF
    exact bX12_dismissed_43 C O K32 X (lv_sub hl [0, 1, 2, 3] rfl) hF
noncomputable def fX12_dismissed_b32 (N : Nat) (r32 : Int32 → Int32 → Int32 → gS → Option (Int32 × gS)) (x1 : Int32) (x2 : Int32) (x3 : Int32) (S : gS) : Option (Int32 × gS) := if 60 < x3 then fX12_dismissed_b75 N x2 S else fX12_dismissed_b38 N r32 x1 x2 x3 S
theorem bX12_dismissed_32 {N : Nat} {r32 : Int32 → Int32 → Int32 → gS → Option (Int32 × gS)} {x1 : Int32} {x2 : Int32} {x3 : Int32} {S : gS} {H : Heap} {locs : List Loc} {ls : Array Slot} {o : Int32 × gS} (C : gC p s m args meth c cX12_dismissed 4 RX12 ((some .int)) D (mtys cI cS) mord g Am) (O : gO (mcell g cI cS sa) mord g) (K32 : ∀ (x1 : Int32) (x2 : Int32) (x3 : Int32) (S : gS) (H : Heap) (locs : List Loc) (ls : Array Slot), gX D (mcell g cI cS sa) mord g S s H locs → lv_has ls 4 [(0, .ref (g 99)), (1, .int x1), (2, .int x2), (3, .int x3)] → r32 x1 x2 x3 S = some o → W p l e (rmd 6) s m args below meth c H locs 0 0 (gE below args s D (mtys cI cS) (mcell g cI cS sa) mord g (some (.int o.1)) o.2) (F0 m 32 ls [])) (X : gX D (mcell g cI cS sa) mord g S s H locs) (hl : lv_has ls 4 [(0, .ref (g 99)), (1, .int x1), (2, .int x2), (3, .int x3)]) (hF : fX12_dismissed_b32 N r32 x1 x2 x3 S = some o) : W p l e (rmd 6) s m args below meth c H locs 0 0 (gE below args s D (mtys cI cS) (mcell g cI cS sa) mord g (some (.int o.1)) o.2) (F0 m 32 ls []) := by
  unfold fX12_dismissed_b32 at hF
  refine lv_iload_n C.1.1 C.1.2.1 dX12_dismissed_32 rfl (lv_at hl 3 rfl) ?_
  refine lv_bipush (v := 60) C.1.1 C.1.2.1 dX12_dismissed_33 (by decide) ?_
  refine lv_icmp_gt (tgt := 75) C.1.1 C.1.2.1 dX12_dismissed_35 (by decide) (fun h_z => ?_) (fun h_z => ?_)
  · rw [if_pos h_z] at hF
    exact bX12_dismissed_75 C O X (lv_sub hl [0, 2] rfl) hF
  · rw [if_neg h_z] at hF
    exact bX12_dismissed_38 C O K32 X (lv_sub hl [0, 1, 2, 3] rfl) hF
noncomputable def fX12_dismissed_h32 (N : Nat) : Nat → Int32 → Int32 → Int32 → gS → Option (Int32 × gS)
  | 0, _, _, _, _ => none
  | n + 1, x1, x2, x3, S => fX12_dismissed_b32 N (fX12_dismissed_h32 N n) x1 x2 x3 S
theorem hX12_dismissed_32 {N : Nat} {o : Int32 × gS} (C : gC p s m args meth c cX12_dismissed 4 RX12 ((some .int)) D (mtys cI cS) mord g Am) (O : gO (mcell g cI cS sa) mord g) : ∀ (n : Nat) (x1 : Int32) (x2 : Int32) (x3 : Int32) (S : gS) (H : Heap) (locs : List Loc) (ls : Array Slot), gX D (mcell g cI cS sa) mord g S s H locs → lv_has ls 4 [(0, .ref (g 99)), (1, .int x1), (2, .int x2), (3, .int x3)] → fX12_dismissed_h32 N n x1 x2 x3 S = some o → W p l e (rmd 6) s m args below meth c H locs 0 0 (gE below args s D (mtys cI cS) (mcell g cI cS sa) mord g (some (.int o.1)) o.2) (F0 m 32 ls []) := by
  intro n
  induction n with
  | zero =>
    intro x1 x2 x3 S H locs ls X hl hF
    exact absurd (show (none : Option (Int32 × gS)) = some o from hF) (by simp)
  | succ n ih =>
    intro x1 x2 x3 S H locs ls X hl hF
    have hF : fX12_dismissed_b32 N (fX12_dismissed_h32 N n) x1 x2 x3 S = some o := hF
    exact bX12_dismissed_32 C O ih X hl hF
noncomputable def fX12_dismissed_b19 (N : Nat) (x1 : Int32) (S : gS) : Option (Int32 × gS) := bnd (fX12_pack N 46 0 S) fun q1 => (fX12_dismissed_h32 N N x1 ((-1)) 1 q1.2)
theorem bX12_dismissed_19 {N : Nat} {x1 : Int32} {S : gS} {H : Heap} {locs : List Loc} {ls : Array Slot} {o : Int32 × gS} (C : gC p s m args meth c cX12_dismissed 4 RX12 ((some .int)) D (mtys cI cS) mord g Am) (O : gO (mcell g cI cS sa) mord g) (X : gX D (mcell g cI cS sa) mord g S s H locs) (hl : lv_has ls 4 [(0, .ref (g 99)), (1, .int x1)]) (hF : fX12_dismissed_b19 N x1 S = some o) : W p l e (rmd 6) s m args below meth c H locs 0 0 (gE below args s D (mtys cI cS) (mcell g cI cS sa) mord g (some (.int o.1)) o.2) (F0 m 19 ls []) := by
  unfold fX12_dismissed_b19 at hF
  refine lv_aload_n C.1.1 C.1.2.1 dX12_dismissed_19 rfl (lv_at hl 0 rfl) ?_
  refine lv_aload_n C.1.1 C.1.2.1 dX12_dismissed_20 rfl (lv_at hl 0 rfl) ?_
  refine m_g46 C X dX12_dismissed_21 ?_
  refine lv_iconst (v := 0) C.1.1 C.1.2.1 dX12_dismissed_24 (by decide) ?_
  obtain ⟨q1, hq1, hF⟩ := bnd_some hF
  refine m_callV C X vX12_pack rfl (kX12_pack O C.2.2.2.2.1 N 46 0 (rfl : mI 46 = true) S q1 hq1) (Nat.le_of_ble_eq_true rfl) (Nat.le_of_ble_eq_true rfl) (Nat.le_of_ble_eq_true rfl) (Nat.le_of_ble_eq_true rfl) rfl hl.1 rfl (Nat.le_of_ble_eq_true rfl) dX12_dismissed_25 (fun H locs X => ?_)
  refine lv_iconst (v := (-1)) C.1.1 C.1.2.1 dX12_dismissed_28 (by decide) ?_
  refine lv_istore_n (lv' := [(2, .int ((-1))), (0, .ref (g 99)), (1, .int x1)]) C.1.1 C.1.2.1 dX12_dismissed_29 rfl hl (by decide) rfl (fun ls hl => ?_)
  refine lv_iconst (v := 1) C.1.1 C.1.2.1 dX12_dismissed_30 (by decide) ?_
  refine lv_istore_n (lv' := [(3, .int 1), (2, .int ((-1))), (0, .ref (g 99)), (1, .int x1)]) C.1.1 C.1.2.1 dX12_dismissed_31 rfl hl (by decide) rfl (fun ls hl => ?_)
  exact hX12_dismissed_32 C O N _ _ _ _ _ _ _ X (lv_sub hl [2, 3, 1, 0] rfl) hF
noncomputable def fX12_dismissed_b13 (N : Nat) (S : gS) : Option (Int32 × gS) := bnd (fX12_fail N 1 S) fun q1 => (some (q1.1, q1.2))
theorem bX12_dismissed_13 {N : Nat} {S : gS} {H : Heap} {locs : List Loc} {ls : Array Slot} {o : Int32 × gS} (C : gC p s m args meth c cX12_dismissed 4 RX12 ((some .int)) D (mtys cI cS) mord g Am) (O : gO (mcell g cI cS sa) mord g) (X : gX D (mcell g cI cS sa) mord g S s H locs) (hl : lv_has ls 4 [(0, .ref (g 99))]) (hF : fX12_dismissed_b13 N S = some o) : W p l e (rmd 6) s m args below meth c H locs 0 0 (gE below args s D (mtys cI cS) (mcell g cI cS sa) mord g (some (.int o.1)) o.2) (F0 m 13 ls []) := by
  unfold fX12_dismissed_b13 at hF
  refine lv_aload_n C.1.1 C.1.2.1 dX12_dismissed_13 rfl (lv_at hl 0 rfl) ?_
  refine lv_iconst (v := 1) C.1.1 C.1.2.1 dX12_dismissed_14 (by decide) ?_
  obtain ⟨q1, hq1, hF⟩ := bnd_some hF
  refine m_callVi C X vX12_fail rfl (kX12_fail O C.2.2.2.2.1 N 1  S q1 hq1) (Nat.le_of_ble_eq_true rfl) (Nat.le_of_ble_eq_true rfl) (Nat.le_of_ble_eq_true rfl) (Nat.le_of_ble_eq_true rfl) rfl hl.1 rfl (Nat.le_of_ble_eq_true rfl) dX12_dismissed_15 (fun H locs X => ?_)
  cases hF
  exact g_iret C X dX12_dismissed_18
noncomputable def fX12_dismissed_b0 (N : Nat) (x1 : Int32) (S : gS) : Option (Int32 × gS) := lt (sU S 99 4 0) fun S1 => (bnd (fX12_isGuild N x1 S1) fun q1 => (if q1.1 = 0 then fX12_dismissed_b13 N q1.2 else fX12_dismissed_b19 N x1 q1.2))
theorem bX12_dismissed_0 {N : Nat} {x1 : Int32} {S : gS} {H : Heap} {locs : List Loc} {ls : Array Slot} {o : Int32 × gS} (C : gC p s m args meth c cX12_dismissed 4 RX12 ((some .int)) D (mtys cI cS) mord g Am) (O : gO (mcell g cI cS sa) mord g) (X : gX D (mcell g cI cS sa) mord g S s H locs) (hl : lv_has ls 4 [(0, .ref (g 99)), (1, .int x1)]) (hF : fX12_dismissed_b0 N x1 S = some o) : W p l e (rmd 6) s m args below meth c H locs 0 0 (gE below args s D (mtys cI cS) (mcell g cI cS sa) mord g (some (.int o.1)) o.2) (F0 m 0 ls []) := by
  unfold fX12_dismissed_b0 at hF
  refine lv_aload_n C.1.1 C.1.2.1 dX12_dismissed_0 rfl (lv_at hl 0 rfl) ?_
  refine lv_iconst (v := 0) C.1.1 C.1.2.1 dX12_dismissed_1 (by decide) ?_
  obtain ⟨S1, eS1, hF⟩ := lt_some hF
  refine m_p4 C O X eS1 dX12_dismissed_2 (fun H locs X => ?_)
  refine lv_aload_n C.1.1 C.1.2.1 dX12_dismissed_5 rfl (lv_at hl 0 rfl) ?_
  refine lv_iload_n C.1.1 C.1.2.1 dX12_dismissed_6 rfl (lv_at hl 1 rfl) ?_
  obtain ⟨q1, hq1, hF⟩ := bnd_some hF
  refine m_callVi C X vX12_isGuild rfl (kX12_isGuild O C.2.2.2.2.1 N x1  S1 q1 hq1) (Nat.le_of_ble_eq_true rfl) (Nat.le_of_ble_eq_true rfl) (Nat.le_of_ble_eq_true rfl) (Nat.le_of_ble_eq_true rfl) rfl hl.1 rfl (Nat.le_of_ble_eq_true rfl) dX12_dismissed_7 (fun H locs X => ?_)
  refine lv_if_ne (tgt := 19) C.1.1 C.1.2.1 dX12_dismissed_10 (by decide) (fun h_z => ?_) (fun h_z => ?_)
  · rw [if_neg h_z] at hF
    exact bX12_dismissed_19 C O X (lv_sub hl [0, 1] rfl) hF
  · rw [if_pos h_z] at hF
    exact bX12_dismissed_13 C O X (lv_sub hl [0] rfl) hF
noncomputable def fX12_dismissed (N : Nat) (x1 : Int32) (S : gS) : Option (Int32 × gS) := fX12_dismissed_b0 N x1 S
theorem kX12_dismissed {l : Launch} {D : va_G} {g : Nat → Nat} {cI cS : ClassId} {sa : Nat → Nat → Option Nat} {Am : (Nat → Prop) → State → Heap → Prop} (O : gO (mcell g cI cS sa) mord g) (P : gAm Am) (N : Nat) (x1 : Int32) (S : gS) (o : Int32 × gS) (hF : fX12_dismissed N x1 S = some o) : gM l yX12_dismissed cX12_dismissed 4 ((some .int)) 6 D (mtys cI cS) (mcell g cI cS sa) mord g Am [.ref (g 99), .int x1] S (some (.int o.1)) o.2 :=
  gM_of O P (by decide) (Nat.le_of_ble_eq_true rfl) (fun p e s m args below meth c ls C X hl => bX12_dismissed_0 C O X (lv_sub hl [0, 1] rfl) hF)
-- greatest
noncomputable def fX12_greatest_b36 (N : Nat) (x2 : Int32) (S : gS) : Option (Int32 × gS) := some (x2, S)
theorem bX12_greatest_36 {N : Nat} {x2 : Int32} {S : gS} {H : Heap} {locs : List Loc} {ls : Array Slot} {o : Int32 × gS} (C : gC p s m args meth c cX12_greatest 4 RX12 ((some .int)) D (mtys cI cS) mord g Am) (O : gO (mcell g cI cS sa) mord g) (X : gX D (mcell g cI cS sa) mord g S s H locs) (hl : lv_has ls 4 [(2, .int x2)]) (hF : fX12_greatest_b36 N x2 S = some o) : W p l e (rmd 0) s m args below meth c H locs 0 0 (gE below args s D (mtys cI cS) (mcell g cI cS sa) mord g (some (.int o.1)) o.2) (F0 m 36 ls []) := by
  unfold fX12_greatest_b36 at hF
  refine lv_iload_n C.1.1 C.1.2.1 dX12_greatest_36 rfl (lv_at hl 0 rfl) ?_
  cases hF
  exact g_iret C X dX12_greatest_37
noncomputable def fX12_greatest_b30 (N : Nat) (r4 : Nat → Int32 → Int32 → gS → Option (Int32 × gS)) (k1 : Nat) (x2 : Int32) (x3 : Int32) (S : gS) : Option (Int32 × gS) := r4 k1 x2 ((x3 + 1 : Int32)) S
theorem bX12_greatest_30 {N : Nat} {r4 : Nat → Int32 → Int32 → gS → Option (Int32 × gS)} {k1 : Nat} {x2 : Int32} {x3 : Int32} {S : gS} {H : Heap} {locs : List Loc} {ls : Array Slot} {o : Int32 × gS} (C : gC p s m args meth c cX12_greatest 4 RX12 ((some .int)) D (mtys cI cS) mord g Am) (O : gO (mcell g cI cS sa) mord g) (K4 : ∀ (k1 : Nat) (x2 : Int32) (x3 : Int32) (hk_k1 : mI k1 = true) (S : gS) (H : Heap) (locs : List Loc) (ls : Array Slot), gX D (mcell g cI cS sa) mord g S s H locs → lv_has ls 4 [(0, .ref (g 99)), (1, .ref (g k1)), (2, .int x2), (3, .int x3)] → r4 k1 x2 x3 S = some o → W p l e (rmd 0) s m args below meth c H locs 0 0 (gE below args s D (mtys cI cS) (mcell g cI cS sa) mord g (some (.int o.1)) o.2) (F0 m 4 ls [])) (hk_k1 : mI k1 = true) (X : gX D (mcell g cI cS sa) mord g S s H locs) (hl : lv_has ls 4 [(0, .ref (g 99)), (1, .ref (g k1)), (2, .int x2), (3, .int x3)]) (hF : fX12_greatest_b30 N r4 k1 x2 x3 S = some o) : W p l e (rmd 0) s m args below meth c H locs 0 0 (gE below args s D (mtys cI cS) (mcell g cI cS sa) mord g (some (.int o.1)) o.2) (F0 m 30 ls []) := by
  unfold fX12_greatest_b30 at hF
  refine lv_iinc (v := (x3 + 1 : Int32)) (lv' := [(3, .int ((x3 + 1 : Int32))), (0, .ref (g 99)), (1, .ref (g k1)), (2, .int x2)]) C.1.1 C.1.2.1 dX12_greatest_30 hl (k := 3) rfl rfl (by decide) rfl (fun ls hl => ?_)
  refine lv_goto (tgt := 4) C.1.1 C.1.2.1 dX12_greatest_33 (by decide) ?_
  exact K4 _ _ _ hk_k1 _ _ _ _ X (lv_sub hl [1, 2, 3, 0] rfl) hF
noncomputable def fX12_greatest_b28 (N : Nat) (r4 : Nat → Int32 → Int32 → gS → Option (Int32 × gS)) (k1 : Nat) (x3 : Int32) (S : gS) : Option (Int32 × gS) := fX12_greatest_b30 N r4 k1 x3 x3 S
theorem bX12_greatest_28 {N : Nat} {r4 : Nat → Int32 → Int32 → gS → Option (Int32 × gS)} {k1 : Nat} {x3 : Int32} {S : gS} {H : Heap} {locs : List Loc} {ls : Array Slot} {o : Int32 × gS} (C : gC p s m args meth c cX12_greatest 4 RX12 ((some .int)) D (mtys cI cS) mord g Am) (O : gO (mcell g cI cS sa) mord g) (K4 : ∀ (k1 : Nat) (x2 : Int32) (x3 : Int32) (hk_k1 : mI k1 = true) (S : gS) (H : Heap) (locs : List Loc) (ls : Array Slot), gX D (mcell g cI cS sa) mord g S s H locs → lv_has ls 4 [(0, .ref (g 99)), (1, .ref (g k1)), (2, .int x2), (3, .int x3)] → r4 k1 x2 x3 S = some o → W p l e (rmd 0) s m args below meth c H locs 0 0 (gE below args s D (mtys cI cS) (mcell g cI cS sa) mord g (some (.int o.1)) o.2) (F0 m 4 ls [])) (hk_k1 : mI k1 = true) (X : gX D (mcell g cI cS sa) mord g S s H locs) (hl : lv_has ls 4 [(0, .ref (g 99)), (1, .ref (g k1)), (3, .int x3)]) (hF : fX12_greatest_b28 N r4 k1 x3 S = some o) : W p l e (rmd 0) s m args below meth c H locs 0 0 (gE below args s D (mtys cI cS) (mcell g cI cS sa) mord g (some (.int o.1)) o.2) (F0 m 28 ls []) := by
  unfold fX12_greatest_b28 at hF
  refine lv_iload_n C.1.1 C.1.2.1 dX12_greatest_28 rfl (lv_at hl 2 rfl) ?_
  refine lv_istore_n (lv' := [(2, .int x3), (0, .ref (g 99)), (1, .ref (g k1)), (3, .int x3)]) C.1.1 C.1.2.1 dX12_greatest_29 rfl hl (by decide) rfl (fun ls hl => ?_)
  exact bX12_greatest_30 C O K4 hk_k1 X (lv_sub hl [1, 2, 0, 3] rfl) hF
noncomputable def fX12_greatest_b19 (N : Nat) (r4 : Nat → Int32 → Int32 → gS → Option (Int32 × gS)) (k1 : Nat) (x2 : Int32) (x3 : Int32) (S : gS) : Option (Int32 × gS) := chk (inb x3 (mN k1)) (chk (inb x2 (mN k1)) (if (S k1 (Int32.toNatClampNeg x3)) ≤ (S k1 (Int32.toNatClampNeg x2)) then fX12_greatest_b30 N r4 k1 x2 x3 S else fX12_greatest_b28 N r4 k1 x3 S))
theorem bX12_greatest_19 {N : Nat} {r4 : Nat → Int32 → Int32 → gS → Option (Int32 × gS)} {k1 : Nat} {x2 : Int32} {x3 : Int32} {S : gS} {H : Heap} {locs : List Loc} {ls : Array Slot} {o : Int32 × gS} (C : gC p s m args meth c cX12_greatest 4 RX12 ((some .int)) D (mtys cI cS) mord g Am) (O : gO (mcell g cI cS sa) mord g) (K4 : ∀ (k1 : Nat) (x2 : Int32) (x3 : Int32) (hk_k1 : mI k1 = true) (S : gS) (H : Heap) (locs : List Loc) (ls : Array Slot), gX D (mcell g cI cS sa) mord g S s H locs → lv_has ls 4 [(0, .ref (g 99)), (1, .ref (g k1)), (2, .int x2), (3, .int x3)] → r4 k1 x2 x3 S = some o → W p l e (rmd 0) s m args below meth c H locs 0 0 (gE below args s D (mtys cI cS) (mcell g cI cS sa) mord g (some (.int o.1)) o.2) (F0 m 4 ls [])) (hk_k1 : mI k1 = true) (X : gX D (mcell g cI cS sa) mord g S s H locs) (hl : lv_has ls 4 [(0, .ref (g 99)), (1, .ref (g k1)), (2, .int x2), (3, .int x3)]) (hF : fX12_greatest_b19 N r4 k1 x2 x3 S = some o) : W p l e (rmd 0) s m args below meth c H locs 0 0 (gE below args s D (mtys cI cS) (mcell g cI cS sa) mord g (some (.int o.1)) o.2) (F0 m 19 ls []) := by
  unfold fX12_greatest_b19 at hF
  refine lv_aload_n C.1.1 C.1.2.1 dX12_greatest_19 rfl (lv_at hl 1 rfl) ?_
  refine lv_iload_n C.1.1 C.1.2.1 dX12_greatest_20 rfl (lv_at hl 3 rfl) ?_
  obtain ⟨h_1, hF⟩ := chk_some hF
  refine m_rv C X (k := k1) hk_k1  (inb_vp h_1) rfl dX12_greatest_21 ?_
  refine lv_aload_n C.1.1 C.1.2.1 dX12_greatest_22 rfl (lv_at hl 1 rfl) ?_
  refine lv_iload_n C.1.1 C.1.2.1 dX12_greatest_23 rfl (lv_at hl 2 rfl) ?_
  obtain ⟨h_2, hF⟩ := chk_some hF
  refine m_rv C X (k := k1) hk_k1  (inb_vp h_2) rfl dX12_greatest_24 ?_
  refine lv_icmp_le (tgt := 30) C.1.1 C.1.2.1 dX12_greatest_25 (by decide) (fun h_z => ?_) (fun h_z => ?_)
  · rw [if_pos h_z] at hF
    exact bX12_greatest_30 C O K4 hk_k1 X (lv_sub hl [0, 1, 2, 3] rfl) hF
  · rw [if_neg h_z] at hF
    exact bX12_greatest_28 C O K4 hk_k1 X (lv_sub hl [0, 1, 3] rfl) hF
noncomputable def fX12_greatest_b14 (N : Nat) (r4 : Nat → Int32 → Int32 → gS → Option (Int32 × gS)) (k1 : Nat) (x2 : Int32) (x3 : Int32) (S : gS) : Option (Int32 × gS) := if x2 = ((-1)) then fX12_greatest_b28 N r4 k1 x3 S else fX12_greatest_b19 N r4 k1 x2 x3 S
theorem bX12_greatest_14 {N : Nat} {r4 : Nat → Int32 → Int32 → gS → Option (Int32 × gS)} {k1 : Nat} {x2 : Int32} {x3 : Int32} {S : gS} {H : Heap} {locs : List Loc} {ls : Array Slot} {o : Int32 × gS} (C : gC p s m args meth c cX12_greatest 4 RX12 ((some .int)) D (mtys cI cS) mord g Am) (O : gO (mcell g cI cS sa) mord g) (K4 : ∀ (k1 : Nat) (x2 : Int32) (x3 : Int32) (hk_k1 : mI k1 = true) (S : gS) (H : Heap) (locs : List Loc) (ls : Array Slot), gX D (mcell g cI cS sa) mord g S s H locs → lv_has ls 4 [(0, .ref (g 99)), (1, .ref (g k1)), (2, .int x2), (3, .int x3)] → r4 k1 x2 x3 S = some o → W p l e (rmd 0) s m args below meth c H locs 0 0 (gE below args s D (mtys cI cS) (mcell g cI cS sa) mord g (some (.int o.1)) o.2) (F0 m 4 ls [])) (hk_k1 : mI k1 = true) (X : gX D (mcell g cI cS sa) mord g S s H locs) (hl : lv_has ls 4 [(0, .ref (g 99)), (1, .ref (g k1)), (2, .int x2), (3, .int x3)]) (hF : fX12_greatest_b14 N r4 k1 x2 x3 S = some o) : W p l e (rmd 0) s m args below meth c H locs 0 0 (gE below args s D (mtys cI cS) (mcell g cI cS sa) mord g (some (.int o.1)) o.2) (F0 m 14 ls []) := by
  unfold fX12_greatest_b14 at hF
  refine lv_iload_n C.1.1 C.1.2.1 dX12_greatest_14 rfl (lv_at hl 2 rfl) ?_
  refine lv_iconst (v := (-1)) C.1.1 C.1.2.1 dX12_greatest_15 (by decide) ?_
  refine lv_icmp_eq (tgt := 28) C.1.1 C.1.2.1 dX12_greatest_16 (by decide) (fun h_z => ?_) (fun h_z => ?_)
  · rw [if_pos h_z] at hF
    exact bX12_greatest_28 C O K4 hk_k1 X (lv_sub hl [0, 1, 3] rfl) hF
  · rw [if_neg h_z] at hF
    exact bX12_greatest_19 C O K4 hk_k1 X (lv_sub hl [0, 1, 2, 3] rfl) hF
noncomputable def fX12_greatest_b4 (N : Nat) (r4 : Nat → Int32 → Int32 → gS → Option (Int32 × gS)) (k1 : Nat) (x2 : Int32) (x3 : Int32) (S : gS) : Option (Int32 × gS) := if (S 5 1) ≤ x3 then fX12_greatest_b36 N x2 S else fX12_greatest_b14 N r4 k1 x2 x3 S
theorem bX12_greatest_4 {N : Nat} {r4 : Nat → Int32 → Int32 → gS → Option (Int32 × gS)} {k1 : Nat} {x2 : Int32} {x3 : Int32} {S : gS} {H : Heap} {locs : List Loc} {ls : Array Slot} {o : Int32 × gS} (C : gC p s m args meth c cX12_greatest 4 RX12 ((some .int)) D (mtys cI cS) mord g Am) (O : gO (mcell g cI cS sa) mord g) (K4 : ∀ (k1 : Nat) (x2 : Int32) (x3 : Int32) (hk_k1 : mI k1 = true) (S : gS) (H : Heap) (locs : List Loc) (ls : Array Slot), gX D (mcell g cI cS sa) mord g S s H locs → lv_has ls 4 [(0, .ref (g 99)), (1, .ref (g k1)), (2, .int x2), (3, .int x3)] → r4 k1 x2 x3 S = some o → W p l e (rmd 0) s m args below meth c H locs 0 0 (gE below args s D (mtys cI cS) (mcell g cI cS sa) mord g (some (.int o.1)) o.2) (F0 m 4 ls [])) (hk_k1 : mI k1 = true) (X : gX D (mcell g cI cS sa) mord g S s H locs) (hl : lv_has ls 4 [(0, .ref (g 99)), (1, .ref (g k1)), (2, .int x2), (3, .int x3)]) (hF : fX12_greatest_b4 N r4 k1 x2 x3 S = some o) : W p l e (rmd 0) s m args below meth c H locs 0 0 (gE below args s D (mtys cI cS) (mcell g cI cS sa) mord g (some (.int o.1)) o.2) (F0 m 4 ls []) := by
  unfold fX12_greatest_b4 at hF
  refine lv_iload_n C.1.1 C.1.2.1 dX12_greatest_4 rfl (lv_at hl 3 rfl) ?_
  refine lv_aload_n C.1.1 C.1.2.1 dX12_greatest_5 rfl (lv_at hl 0 rfl) ?_
  refine m_g5 C X dX12_greatest_6 ?_
  refine lv_iconst (v := 1) C.1.1 C.1.2.1 dX12_greatest_9 (by decide) ?_
  refine m_r5 C X (j := 1) (inb_vp (by decide)) (by decide) dX12_greatest_10 ?_
  refine lv_icmp_ge (tgt := 36) C.1.1 C.1.2.1 dX12_greatest_11 (by decide) (fun h_z => ?_) (fun h_z => ?_)
  · rw [if_pos h_z] at hF
    exact bX12_greatest_36 C O X (lv_sub hl [2] rfl) hF
  · rw [if_neg h_z] at hF
    exact bX12_greatest_14 C O K4 hk_k1 X (lv_sub hl [0, 1, 2, 3] rfl) hF
noncomputable def fX12_greatest_h4 (N : Nat) : Nat → Nat → Int32 → Int32 → gS → Option (Int32 × gS)
  | 0, _, _, _, _ => none
  | n + 1, k1, x2, x3, S => fX12_greatest_b4 N (fX12_greatest_h4 N n) k1 x2 x3 S
theorem hX12_greatest_4 {N : Nat} {o : Int32 × gS} (C : gC p s m args meth c cX12_greatest 4 RX12 ((some .int)) D (mtys cI cS) mord g Am) (O : gO (mcell g cI cS sa) mord g) : ∀ (n : Nat) (k1 : Nat) (x2 : Int32) (x3 : Int32) (hk_k1 : mI k1 = true) (S : gS) (H : Heap) (locs : List Loc) (ls : Array Slot), gX D (mcell g cI cS sa) mord g S s H locs → lv_has ls 4 [(0, .ref (g 99)), (1, .ref (g k1)), (2, .int x2), (3, .int x3)] → fX12_greatest_h4 N n k1 x2 x3 S = some o → W p l e (rmd 0) s m args below meth c H locs 0 0 (gE below args s D (mtys cI cS) (mcell g cI cS sa) mord g (some (.int o.1)) o.2) (F0 m 4 ls []) := by
  intro n
  induction n with
  | zero =>
    intro k1 x2 x3 hk_k1 S H locs ls X hl hF
    exact absurd (show (none : Option (Int32 × gS)) = some o from hF) (by simp)
  | succ n ih =>
    intro k1 x2 x3 hk_k1 S H locs ls X hl hF
    have hF : fX12_greatest_b4 N (fX12_greatest_h4 N n) k1 x2 x3 S = some o := hF
    exact bX12_greatest_4 C O ih hk_k1 X hl hF
noncomputable def fX12_greatest_b0 (N : Nat) (k1 : Nat) (S : gS) : Option (Int32 × gS) := fX12_greatest_h4 N N k1 ((-1)) 0 S
theorem bX12_greatest_0 {N : Nat} {k1 : Nat} {S : gS} {H : Heap} {locs : List Loc} {ls : Array Slot} {o : Int32 × gS} (C : gC p s m args meth c cX12_greatest 4 RX12 ((some .int)) D (mtys cI cS) mord g Am) (O : gO (mcell g cI cS sa) mord g) (hk_k1 : mI k1 = true) (X : gX D (mcell g cI cS sa) mord g S s H locs) (hl : lv_has ls 4 [(0, .ref (g 99)), (1, .ref (g k1))]) (hF : fX12_greatest_b0 N k1 S = some o) : W p l e (rmd 0) s m args below meth c H locs 0 0 (gE below args s D (mtys cI cS) (mcell g cI cS sa) mord g (some (.int o.1)) o.2) (F0 m 0 ls []) := by
  unfold fX12_greatest_b0 at hF
  refine lv_iconst (v := (-1)) C.1.1 C.1.2.1 dX12_greatest_0 (by decide) ?_
  refine lv_istore_n (lv' := [(2, .int ((-1))), (0, .ref (g 99)), (1, .ref (g k1))]) C.1.1 C.1.2.1 dX12_greatest_1 rfl hl (by decide) rfl (fun ls hl => ?_)
  refine lv_iconst (v := 0) C.1.1 C.1.2.1 dX12_greatest_2 (by decide) ?_
  refine lv_istore_n (lv' := [(3, .int 0), (2, .int ((-1))), (0, .ref (g 99)), (1, .ref (g k1))]) C.1.1 C.1.2.1 dX12_greatest_3 rfl hl (by decide) rfl (fun ls hl => ?_)
  exact hX12_greatest_4 C O N _ _ _ hk_k1 _ _ _ _ X (lv_sub hl [2, 3, 1, 0] rfl) hF
noncomputable def fX12_greatest (N : Nat) (k1 : Nat) (S : gS) : Option (Int32 × gS) := fX12_greatest_b0 N k1 S
theorem kX12_greatest {l : Launch} {D : va_G} {g : Nat → Nat} {cI cS : ClassId} {sa : Nat → Nat → Option Nat} {Am : (Nat → Prop) → State → Heap → Prop} (O : gO (mcell g cI cS sa) mord g) (P : gAm Am) (N : Nat) (k1 : Nat) (hk_k1 : mI k1 = true) (S : gS) (o : Int32 × gS) (hF : fX12_greatest N k1 S = some o) : gM l yX12_greatest cX12_greatest 4 ((some .int)) 0 D (mtys cI cS) (mcell g cI cS sa) mord g Am [.ref (g 99), .ref (g k1)] S (some (.int o.1)) o.2 :=
  gM_of O P (by decide) (Nat.le_of_ble_eq_true rfl) (fun p e s m args below meth c ls C X hl => bX12_greatest_0 C O hk_k1 X (lv_sub hl [0, 1] rfl) hF)
-- most
noncomputable def fX12_most_b68 (N : Nat) (u1 : Nat) (S : gS) : Option (Int32 × gS) := bnd (fX12_greatest N u1 S) fun q1 => (bnd (fX12_unpack N 46 0 q1.2) fun q2 => (some (q1.1, q2.2)))
theorem bX12_most_68 {N : Nat} {u1 : Nat} {S : gS} {H : Heap} {locs : List Loc} {ls : Array Slot} {o : Int32 × gS} (C : gC p s m args meth c cX12_most 4 RX12 ((some .int)) D (mtys cI cS) mord g Am) (O : gO (mcell g cI cS sa) mord g) (hk_u1 : mI u1 = true) (X : gX D (mcell g cI cS sa) mord g S s H locs) (hl : lv_has ls 4 [(0, .ref (g 99))]) (hF : fX12_most_b68 N u1 S = some o) : W p l e (rmd 7) s m args below meth c H locs 0 0 (gE below args s D (mtys cI cS) (mcell g cI cS sa) mord g (some (.int o.1)) o.2) (F0 m 68 ls [.ref (g u1), .ref (g 99)]) := by
  unfold fX12_most_b68 at hF
  obtain ⟨q1, hq1, hF⟩ := bnd_some hF
  refine m_callVi C X vX12_greatest rfl (kX12_greatest O C.2.2.2.2.1 N u1 hk_u1 S q1 hq1) (Nat.le_of_ble_eq_true rfl) (Nat.le_of_ble_eq_true rfl) (Nat.le_of_ble_eq_true rfl) (Nat.le_of_ble_eq_true rfl) rfl hl.1 rfl (Nat.le_of_ble_eq_true rfl) dX12_most_68 (fun H locs X => ?_)
  refine lv_istore_n (lv' := [(3, .int q1.1), (0, .ref (g 99))]) C.1.1 C.1.2.1 dX12_most_71 rfl hl (by decide) rfl (fun ls hl => ?_)
  refine lv_aload_n C.1.1 C.1.2.1 dX12_most_72 rfl (lv_at hl 1 rfl) ?_
  refine lv_aload_n C.1.1 C.1.2.1 dX12_most_73 rfl (lv_at hl 1 rfl) ?_
  refine m_g46 C X dX12_most_74 ?_
  refine lv_iconst (v := 0) C.1.1 C.1.2.1 dX12_most_77 (by decide) ?_
  obtain ⟨q2, hq2, hF⟩ := bnd_some hF
  refine m_callV C X vX12_unpack rfl (kX12_unpack O C.2.2.2.2.1 N 46 0 (rfl : mI 46 = true) q1.2 q2 hq2) (Nat.le_of_ble_eq_true rfl) (Nat.le_of_ble_eq_true rfl) (Nat.le_of_ble_eq_true rfl) (Nat.le_of_ble_eq_true rfl) rfl hl.1 rfl (Nat.le_of_ble_eq_true rfl) dX12_most_78 (fun H locs X => ?_)
  refine lv_iload_n C.1.1 C.1.2.1 dX12_most_81 rfl (lv_at hl 0 rfl) ?_
  cases hF
  exact g_iret C X dX12_most_82
noncomputable def fX12_most_b64 (N : Nat) (S : gS) : Option (Int32 × gS) := fX12_most_b68 N 32 S
theorem bX12_most_64 {N : Nat} {S : gS} {H : Heap} {locs : List Loc} {ls : Array Slot} {o : Int32 × gS} (C : gC p s m args meth c cX12_most 4 RX12 ((some .int)) D (mtys cI cS) mord g Am) (O : gO (mcell g cI cS sa) mord g) (X : gX D (mcell g cI cS sa) mord g S s H locs) (hl : lv_has ls 4 [(0, .ref (g 99))]) (hF : fX12_most_b64 N S = some o) : W p l e (rmd 7) s m args below meth c H locs 0 0 (gE below args s D (mtys cI cS) (mcell g cI cS sa) mord g (some (.int o.1)) o.2) (F0 m 64 ls [.ref (g 99)]) := by
  unfold fX12_most_b64 at hF
  refine lv_aload_n C.1.1 C.1.2.1 dX12_most_64 rfl (lv_at hl 0 rfl) ?_
  refine m_g32 C X dX12_most_65 ?_
  exact bX12_most_68 C O (rfl : mI 32 = true) X (lv_sub hl [0] rfl) hF
noncomputable def fX12_most_b57 (N : Nat) (S : gS) : Option (Int32 × gS) := fX12_most_b68 N 33 S
theorem bX12_most_57 {N : Nat} {S : gS} {H : Heap} {locs : List Loc} {ls : Array Slot} {o : Int32 × gS} (C : gC p s m args meth c cX12_most 4 RX12 ((some .int)) D (mtys cI cS) mord g Am) (O : gO (mcell g cI cS sa) mord g) (X : gX D (mcell g cI cS sa) mord g S s H locs) (hl : lv_has ls 4 [(0, .ref (g 99))]) (hF : fX12_most_b57 N S = some o) : W p l e (rmd 7) s m args below meth c H locs 0 0 (gE below args s D (mtys cI cS) (mcell g cI cS sa) mord g (some (.int o.1)) o.2) (F0 m 57 ls [.ref (g 99)]) := by
  unfold fX12_most_b57 at hF
  refine lv_aload_n C.1.1 C.1.2.1 dX12_most_57 rfl (lv_at hl 0 rfl) ?_
  refine m_g33 C X dX12_most_58 ?_
  refine lv_goto (tgt := 68) C.1.1 C.1.2.1 dX12_most_61 (by decide) ?_
  exact bX12_most_68 C O (rfl : mI 33 = true) X (lv_sub hl [0] rfl) hF
noncomputable def fX12_most_b38 (N : Nat) (x1 : Int32) (x2 : Int32) (S : gS) : Option (Int32 × gS) := bnd (fX12_pack N 46 0 S) fun q1 => (bnd (fX12_goOn N x1 q1.2) fun q2 => (if x2 = 0 then fX12_most_b57 N q2.2 else fX12_most_b64 N q2.2))
theorem bX12_most_38 {N : Nat} {x1 : Int32} {x2 : Int32} {S : gS} {H : Heap} {locs : List Loc} {ls : Array Slot} {o : Int32 × gS} (C : gC p s m args meth c cX12_most 4 RX12 ((some .int)) D (mtys cI cS) mord g Am) (O : gO (mcell g cI cS sa) mord g) (X : gX D (mcell g cI cS sa) mord g S s H locs) (hl : lv_has ls 4 [(0, .ref (g 99)), (1, .int x1), (2, .int x2)]) (hF : fX12_most_b38 N x1 x2 S = some o) : W p l e (rmd 7) s m args below meth c H locs 0 0 (gE below args s D (mtys cI cS) (mcell g cI cS sa) mord g (some (.int o.1)) o.2) (F0 m 38 ls []) := by
  unfold fX12_most_b38 at hF
  refine lv_aload_n C.1.1 C.1.2.1 dX12_most_38 rfl (lv_at hl 0 rfl) ?_
  refine lv_aload_n C.1.1 C.1.2.1 dX12_most_39 rfl (lv_at hl 0 rfl) ?_
  refine m_g46 C X dX12_most_40 ?_
  refine lv_iconst (v := 0) C.1.1 C.1.2.1 dX12_most_43 (by decide) ?_
  obtain ⟨q1, hq1, hF⟩ := bnd_some hF
  refine m_callV C X vX12_pack rfl (kX12_pack O C.2.2.2.2.1 N 46 0 (rfl : mI 46 = true) S q1 hq1) (Nat.le_of_ble_eq_true rfl) (Nat.le_of_ble_eq_true rfl) (Nat.le_of_ble_eq_true rfl) (Nat.le_of_ble_eq_true rfl) rfl hl.1 rfl (Nat.le_of_ble_eq_true rfl) dX12_most_44 (fun H locs X => ?_)
  refine lv_aload_n C.1.1 C.1.2.1 dX12_most_47 rfl (lv_at hl 0 rfl) ?_
  refine lv_iload_n C.1.1 C.1.2.1 dX12_most_48 rfl (lv_at hl 1 rfl) ?_
  obtain ⟨q2, hq2, hF⟩ := bnd_some hF
  refine m_callV C X vX12_goOn rfl (kX12_goOn O C.2.2.2.2.1 N x1  q1.2 q2 hq2) (Nat.le_of_ble_eq_true rfl) (Nat.le_of_ble_eq_true rfl) (Nat.le_of_ble_eq_true rfl) (Nat.le_of_ble_eq_true rfl) rfl hl.1 rfl (Nat.le_of_ble_eq_true rfl) dX12_most_49 (fun H locs X => ?_)
  refine lv_aload_n C.1.1 C.1.2.1 dX12_most_52 rfl (lv_at hl 0 rfl) ?_
  refine lv_iload_n C.1.1 C.1.2.1 dX12_most_53 rfl (lv_at hl 2 rfl) ?_
  refine lv_if_ne (tgt := 64) C.1.1 C.1.2.1 dX12_most_54 (by decide) (fun h_z => ?_) (fun h_z => ?_)
  · rw [if_neg h_z] at hF
    exact bX12_most_64 C O X (lv_sub hl [0] rfl) hF
  · rw [if_pos h_z] at hF
    exact bX12_most_57 C O X (lv_sub hl [0] rfl) hF
noncomputable def fX12_most_b32 (N : Nat) (S : gS) : Option (Int32 × gS) := bnd (fX12_fail N 2 S) fun q1 => (some (q1.1, q1.2))
theorem bX12_most_32 {N : Nat} {S : gS} {H : Heap} {locs : List Loc} {ls : Array Slot} {o : Int32 × gS} (C : gC p s m args meth c cX12_most 4 RX12 ((some .int)) D (mtys cI cS) mord g Am) (O : gO (mcell g cI cS sa) mord g) (X : gX D (mcell g cI cS sa) mord g S s H locs) (hl : lv_has ls 4 [(0, .ref (g 99))]) (hF : fX12_most_b32 N S = some o) : W p l e (rmd 7) s m args below meth c H locs 0 0 (gE below args s D (mtys cI cS) (mcell g cI cS sa) mord g (some (.int o.1)) o.2) (F0 m 32 ls []) := by
  unfold fX12_most_b32 at hF
  refine lv_aload_n C.1.1 C.1.2.1 dX12_most_32 rfl (lv_at hl 0 rfl) ?_
  refine lv_iconst (v := 2) C.1.1 C.1.2.1 dX12_most_33 (by decide) ?_
  obtain ⟨q1, hq1, hF⟩ := bnd_some hF
  refine m_callVi C X vX12_fail rfl (kX12_fail O C.2.2.2.2.1 N 2  S q1 hq1) (Nat.le_of_ble_eq_true rfl) (Nat.le_of_ble_eq_true rfl) (Nat.le_of_ble_eq_true rfl) (Nat.le_of_ble_eq_true rfl) rfl hl.1 rfl (Nat.le_of_ble_eq_true rfl) dX12_most_34 (fun H locs X => ?_)
  cases hF
  exact g_iret C X dX12_most_37
noncomputable def fX12_most_b20 (N : Nat) (x1 : Int32) (x2 : Int32) (S : gS) : Option (Int32 × gS) := bnd (fX12_isIn N (Int32.toInt64 x1) 0 60 S) fun q1 => (if q1.1 = 0 then fX12_most_b32 N q1.2 else fX12_most_b38 N x1 x2 q1.2)
theorem bX12_most_20 {N : Nat} {x1 : Int32} {x2 : Int32} {S : gS} {H : Heap} {locs : List Loc} {ls : Array Slot} {o : Int32 × gS} (C : gC p s m args meth c cX12_most 4 RX12 ((some .int)) D (mtys cI cS) mord g Am) (O : gO (mcell g cI cS sa) mord g) (X : gX D (mcell g cI cS sa) mord g S s H locs) (hl : lv_has ls 4 [(0, .ref (g 99)), (1, .int x1), (2, .int x2)]) (hF : fX12_most_b20 N x1 x2 S = some o) : W p l e (rmd 7) s m args below meth c H locs 0 0 (gE below args s D (mtys cI cS) (mcell g cI cS sa) mord g (some (.int o.1)) o.2) (F0 m 20 ls []) := by
  unfold fX12_most_b20 at hF
  refine lv_iload_n C.1.1 C.1.2.1 dX12_most_20 rfl (lv_at hl 1 rfl) ?_
  refine lv_i2l (v := Int32.toInt64 x1) C.1.1 C.1.2.1 dX12_most_21 rfl ?_
  refine lv_lconst (v := 0) C.1.1 C.1.2.1 dX12_most_22 (by decide) ?_
  refine lv_ldc2 C.1.1 C.1.2.1 C.1.2.2.2.1 (C.1.2.2.2.2 _ mKL432) dX12_most_23 ?_
  obtain ⟨q1, hq1, hF⟩ := bnd_some hF
  refine g_callSi C X vX12_isIn (kX12_isIn O C.2.2.2.2.1 N (Int32.toInt64 x1) 0 60  S q1 hq1) (Nat.le_of_ble_eq_true rfl) (Nat.le_of_ble_eq_true rfl) (Nat.le_of_ble_eq_true rfl) (Nat.le_of_ble_eq_true rfl) rfl hl.1 rfl (Nat.le_of_ble_eq_true rfl) dX12_most_26 (fun H locs X => ?_)
  refine lv_if_ne (tgt := 38) C.1.1 C.1.2.1 dX12_most_29 (by decide) (fun h_z => ?_) (fun h_z => ?_)
  · rw [if_neg h_z] at hF
    exact bX12_most_38 C O X (lv_sub hl [0, 1, 2] rfl) hF
  · rw [if_pos h_z] at hF
    exact bX12_most_32 C O X (lv_sub hl [0] rfl) hF
noncomputable def fX12_most_b14 (N : Nat) (S : gS) : Option (Int32 × gS) := bnd (fX12_fail N 1 S) fun q1 => (some (q1.1, q1.2))
theorem bX12_most_14 {N : Nat} {S : gS} {H : Heap} {locs : List Loc} {ls : Array Slot} {o : Int32 × gS} (C : gC p s m args meth c cX12_most 4 RX12 ((some .int)) D (mtys cI cS) mord g Am) (O : gO (mcell g cI cS sa) mord g) (X : gX D (mcell g cI cS sa) mord g S s H locs) (hl : lv_has ls 4 [(0, .ref (g 99))]) (hF : fX12_most_b14 N S = some o) : W p l e (rmd 7) s m args below meth c H locs 0 0 (gE below args s D (mtys cI cS) (mcell g cI cS sa) mord g (some (.int o.1)) o.2) (F0 m 14 ls []) := by
  unfold fX12_most_b14 at hF
  refine lv_aload_n C.1.1 C.1.2.1 dX12_most_14 rfl (lv_at hl 0 rfl) ?_
  refine lv_iconst (v := 1) C.1.1 C.1.2.1 dX12_most_15 (by decide) ?_
  obtain ⟨q1, hq1, hF⟩ := bnd_some hF
  refine m_callVi C X vX12_fail rfl (kX12_fail O C.2.2.2.2.1 N 1  S q1 hq1) (Nat.le_of_ble_eq_true rfl) (Nat.le_of_ble_eq_true rfl) (Nat.le_of_ble_eq_true rfl) (Nat.le_of_ble_eq_true rfl) rfl hl.1 rfl (Nat.le_of_ble_eq_true rfl) dX12_most_16 (fun H locs X => ?_)
  cases hF
  exact g_iret C X dX12_most_19
noncomputable def fX12_most_b9 (N : Nat) (x1 : Int32) (x2 : Int32) (S : gS) : Option (Int32 × gS) := if x2 ≤ 1 then fX12_most_b20 N x1 x2 S else fX12_most_b14 N S
theorem bX12_most_9 {N : Nat} {x1 : Int32} {x2 : Int32} {S : gS} {H : Heap} {locs : List Loc} {ls : Array Slot} {o : Int32 × gS} (C : gC p s m args meth c cX12_most 4 RX12 ((some .int)) D (mtys cI cS) mord g Am) (O : gO (mcell g cI cS sa) mord g) (X : gX D (mcell g cI cS sa) mord g S s H locs) (hl : lv_has ls 4 [(0, .ref (g 99)), (1, .int x1), (2, .int x2)]) (hF : fX12_most_b9 N x1 x2 S = some o) : W p l e (rmd 7) s m args below meth c H locs 0 0 (gE below args s D (mtys cI cS) (mcell g cI cS sa) mord g (some (.int o.1)) o.2) (F0 m 9 ls []) := by
  unfold fX12_most_b9 at hF
  refine lv_iload_n C.1.1 C.1.2.1 dX12_most_9 rfl (lv_at hl 2 rfl) ?_
  refine lv_iconst (v := 1) C.1.1 C.1.2.1 dX12_most_10 (by decide) ?_
  refine lv_icmp_le (tgt := 20) C.1.1 C.1.2.1 dX12_most_11 (by decide) (fun h_z => ?_) (fun h_z => ?_)
  · rw [if_pos h_z] at hF
    exact bX12_most_20 C O X (lv_sub hl [0, 1, 2] rfl) hF
  · rw [if_neg h_z] at hF
    exact bX12_most_14 C O X (lv_sub hl [0] rfl) hF
noncomputable def fX12_most_b0 (N : Nat) (x1 : Int32) (x2 : Int32) (S : gS) : Option (Int32 × gS) := lt (sU S 99 4 0) fun S1 => (if x2 < 0 then fX12_most_b14 N S1 else fX12_most_b9 N x1 x2 S1)
theorem bX12_most_0 {N : Nat} {x1 : Int32} {x2 : Int32} {S : gS} {H : Heap} {locs : List Loc} {ls : Array Slot} {o : Int32 × gS} (C : gC p s m args meth c cX12_most 4 RX12 ((some .int)) D (mtys cI cS) mord g Am) (O : gO (mcell g cI cS sa) mord g) (X : gX D (mcell g cI cS sa) mord g S s H locs) (hl : lv_has ls 4 [(0, .ref (g 99)), (1, .int x1), (2, .int x2)]) (hF : fX12_most_b0 N x1 x2 S = some o) : W p l e (rmd 7) s m args below meth c H locs 0 0 (gE below args s D (mtys cI cS) (mcell g cI cS sa) mord g (some (.int o.1)) o.2) (F0 m 0 ls []) := by
  unfold fX12_most_b0 at hF
  refine lv_aload_n C.1.1 C.1.2.1 dX12_most_0 rfl (lv_at hl 0 rfl) ?_
  refine lv_iconst (v := 0) C.1.1 C.1.2.1 dX12_most_1 (by decide) ?_
  obtain ⟨S1, eS1, hF⟩ := lt_some hF
  refine m_p4 C O X eS1 dX12_most_2 (fun H locs X => ?_)
  refine lv_iload_n C.1.1 C.1.2.1 dX12_most_5 rfl (lv_at hl 2 rfl) ?_
  refine lv_if_lt (tgt := 14) C.1.1 C.1.2.1 dX12_most_6 (by decide) (fun h_z => ?_) (fun h_z => ?_)
  · rw [if_pos h_z] at hF
    exact bX12_most_14 C O X (lv_sub hl [0] rfl) hF
  · rw [if_neg h_z] at hF
    exact bX12_most_9 C O X (lv_sub hl [0, 1, 2] rfl) hF
noncomputable def fX12_most (N : Nat) (x1 : Int32) (x2 : Int32) (S : gS) : Option (Int32 × gS) := fX12_most_b0 N x1 x2 S
theorem kX12_most {l : Launch} {D : va_G} {g : Nat → Nat} {cI cS : ClassId} {sa : Nat → Nat → Option Nat} {Am : (Nat → Prop) → State → Heap → Prop} (O : gO (mcell g cI cS sa) mord g) (P : gAm Am) (N : Nat) (x1 : Int32) (x2 : Int32) (S : gS) (o : Int32 × gS) (hF : fX12_most N x1 x2 S = some o) : gM l yX12_most cX12_most 4 ((some .int)) 7 D (mtys cI cS) (mcell g cI cS sa) mord g Am [.ref (g 99), .int x1, .int x2] S (some (.int o.1)) o.2 :=
  gM_of O P (by decide) (Nat.le_of_ble_eq_true rfl) (fun p e s m args below meth c ls C X hl => bX12_most_0 C O X (lv_sub hl [0, 1, 2] rfl) hF)
end
