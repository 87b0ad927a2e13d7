/-! part 16.bxs -/
section
/-! the class's methods that use texts, copies, expressions (printed by wip/whole/mkxs.py) -/
theorem xcp_X0 : Cond.methodLink RX0 21 arraycopyName ∈ gT ∧ Cond.native arraycopyName ∈ gT ∧ Cond.static arraycopyName ∈ gT ∧ Cond.initialized "java/lang/System" ∈ gT := ⟨gT_c2 220 rfl rfl, gT_c2 222 rfl rfl, gT_c2 221 rfl rfl, gT_c1 25 rfl rfl⟩
section
variable {p : Program} {l : Launch} {e : Env} {s : State} {m : MethodId} {args : Array Value} {below : List Frame} {meth : Method} {c : Code} {D : va_G} {g : Nat → Nat} {cI cB cZ cQ : ClassId} {Am : (Nat → Prop) → State → Heap → Prop} {aK aV : Nat → Nat}
-- X0.add
noncomputable def fX0_add_b36 (N : Nat) (k0 : Nat) (k1 : Nat) (S : gS) : Option (Int32 × gS) := bnd (fX7_write N k1 (k0 + 1) (((S k0 1) * 26 : Int32)) S) fun q1 => (lt (sU q1.2 k0 1 (((q1.2 k0 1) + 1 : Int32))) fun S1 => (some (0, S1)))
theorem bX0_add_36 {N : Nat} {k0 : Nat} {k1 : Nat} {S : gS} {H : Heap} {locs : List Loc} {ls : Array Slot} {o : Int32 × gS} (C : gC p s m args meth c cX0_add 2 RX0 none D (xtys cI cB cZ cQ) xord g Am) (O : xsO g cI cB cZ cQ Am aK aV) (hk_k0 : xk k0 = 0) (hk_k1 : xk k1 = 7) (X : gX D (xcell g cI cB cZ cQ) xord g S s H locs) (hl : lv_has ls 2 [(0, .ref (g k0)), (1, .ref (g k1))]) (hF : fX0_add_b36 N k0 k1 S = some o) : W p l e (rmd 1) s m args below meth c H locs 0 0 (gE below args s D (xtys cI cB cZ cQ) (xcell g cI cB cZ cQ) xord g none o.2) (F0 m 36 ls []) := by
  unfold fX0_add_b36 at hF
  refine lv_aload_n C.1.1 C.1.2.1 dX0_add_36 rfl (lv_at hl 1 rfl) ?_
  refine lv_aload_n C.1.1 C.1.2.1 dX0_add_37 rfl (lv_at hl 0 rfl) ?_
  refine xg_X0_11 C O.1 X (k := k0) hk_k0 (j := k0 + 1) rfl dX0_add_38 ?_
  refine lv_aload_n C.1.1 C.1.2.1 dX0_add_41 rfl (lv_at hl 0 rfl) ?_
  refine xg_X0_17 C O.1 X (k := k0) hk_k0 dX0_add_42 ?_
  refine lv_bipush (v := 26) C.1.1 C.1.2.1 dX0_add_45 (by decide) ?_
  refine lv_imul C.1.1 C.1.2.1 dX0_add_47 ?_
  obtain ⟨q1, hq1, hF⟩ := bnd_some hF
  refine x_callV C X (k := k1) xv_X0_27 hk_k1 rfl rfl (by decide) (kX7_write O.1 C.2.2.2.2.1 N k1 (k0 + 1) (((S k0 1) * 26 : Int32)) (hk_k1 : xk k1 = 7) ((xs_0_0 hk_k0).1 : xk (k0 + 1) = 20) S q1 hq1) (Nat.le_of_ble_eq_true rfl) (Nat.le_of_ble_eq_true rfl) (Nat.le_of_ble_eq_true rfl) (Nat.le_of_ble_eq_true rfl) rfl hl.1 rfl (Nat.le_of_ble_eq_true rfl) dX0_add_48 (fun H locs X => ?_)
  refine lv_aload_n C.1.1 C.1.2.1 dX0_add_51 rfl (lv_at hl 0 rfl) ?_
  refine lv_dup C.1.1 C.1.2.1 dX0_add_52 rfl ?_
  refine xg_X0_17 C O.1 X (k := k0) hk_k0 dX0_add_53 ?_
  refine lv_iconst (v := 1) C.1.1 C.1.2.1 dX0_add_56 (by decide) ?_
  refine lv_iadd C.1.1 C.1.2.1 dX0_add_57 ?_
  obtain ⟨S1, eS1, hF⟩ := lt_some hF
  refine xp_X0_17 C O.1 X (k := k0) hk_k0 eS1 dX0_add_58 (fun H locs X => ?_)
  cases hF
  exact g_vret C X dX0_add_61
noncomputable def fX0_add_b9 (N : Nat) (k0 : Nat) (k1 : Nat) (S : gS) : Option (Int32 × gS) := lt (sU S k0 1 39) fun S1 => (chk (acp (26 : Int32) (0 : Int32) (((S1 k0 1) * 26 : Int32)) 1040 1040) (lt (sC S1 (k0 + 1) (k0 + 1) (Int32.toNatClampNeg (26 : Int32)) (Int32.toNatClampNeg (0 : Int32)) (Int32.toNatClampNeg (((S1 k0 1) * 26 : Int32)))) fun S2 => (fX0_add_b36 N k0 k1 S2)))
theorem bX0_add_9 {N : Nat} {k0 : Nat} {k1 : Nat} {S : gS} {H : Heap} {locs : List Loc} {ls : Array Slot} {o : Int32 × gS} (C : gC p s m args meth c cX0_add 2 RX0 none D (xtys cI cB cZ cQ) xord g Am) (O : xsO g cI cB cZ cQ Am aK aV) (hk_k0 : xk k0 = 0) (hk_k1 : xk k1 = 7) (X : gX D (xcell g cI cB cZ cQ) xord g S s H locs) (hl : lv_has ls 2 [(0, .ref (g k0)), (1, .ref (g k1))]) (hF : fX0_add_b9 N k0 k1 S = some o) : W p l e (rmd 1) s m args below meth c H locs 0 0 (gE below args s D (xtys cI cB cZ cQ) (xcell g cI cB cZ cQ) xord g none o.2) (F0 m 9 ls []) := by
  unfold fX0_add_b9 at hF
  refine lv_aload_n C.1.1 C.1.2.1 dX0_add_9 rfl (lv_at hl 0 rfl) ?_
  refine lv_bipush (v := 39) C.1.1 C.1.2.1 dX0_add_10 (by decide) ?_
  obtain ⟨S1, eS1, hF⟩ := lt_some hF
  refine xp_X0_17 C O.1 X (k := k0) hk_k0 eS1 dX0_add_12 (fun H locs X => ?_)
  refine lv_aload_n C.1.1 C.1.2.1 dX0_add_15 rfl (lv_at hl 0 rfl) ?_
  refine xg_X0_11 C O.1 X (k := k0) hk_k0 (j := k0 + 1) rfl dX0_add_16 ?_
  refine lv_bipush (v := 26) C.1.1 C.1.2.1 dX0_add_19 (by decide) ?_
  refine lv_aload_n C.1.1 C.1.2.1 dX0_add_21 rfl (lv_at hl 0 rfl) ?_
  refine xg_X0_11 C O.1 X (k := k0) hk_k0 (j := k0 + 1) rfl dX0_add_22 ?_
  refine lv_iconst (v := 0) C.1.1 C.1.2.1 dX0_add_25 (by decide) ?_
  refine lv_aload_n C.1.1 C.1.2.1 dX0_add_26 rfl (lv_at hl 0 rfl) ?_
  refine xg_X0_17 C O.1 X (k := k0) hk_k0 dX0_add_27 ?_
  refine lv_bipush (v := 26) C.1.1 C.1.2.1 dX0_add_30 (by decide) ?_
  refine lv_imul C.1.1 C.1.2.1 dX0_add_32 ?_
  obtain ⟨h_1, hF⟩ := chk_some hF
  obtain ⟨S2, eS2, hF⟩ := lt_some hF
  refine x_copy C O.1 X hl.1 xcp_X0 (k0 := k0 + 1) (k1 := k0 + 1) (xs_0_0 hk_k0).1 (xs_0_0 hk_k0).1 (xs_0_0 hk_k0).2 (xs_0_0 hk_k0).2 h_1 eS2 (Nat.le_of_ble_eq_true rfl) (Nat.le_of_ble_eq_true rfl) (Nat.le_of_ble_eq_true rfl) (Nat.le_of_ble_eq_true rfl) dX0_add_33 (fun H locs X => ?_)
  exact bX0_add_36 C O (hk_k0 : xk k0 = 0) (hk_k1 : xk k1 = 7) X (lv_sub hl [0, 1] rfl) hF
noncomputable def fX0_add_b0 (N : Nat) (k0 : Nat) (k1 : Nat) (S : gS) : Option (Int32 × gS) := if (S k0 1) < 40 then fX0_add_b36 N k0 k1 S else fX0_add_b9 N k0 k1 S
theorem bX0_add_0 {N : Nat} {k0 : Nat} {k1 : Nat} {S : gS} {H : Heap} {locs : List Loc} {ls : Array Slot} {o : Int32 × gS} (C : gC p s m args meth c cX0_add 2 RX0 none D (xtys cI cB cZ cQ) xord g Am) (O : xsO g cI cB cZ cQ Am aK aV) (hk_k0 : xk k0 = 0) (hk_k1 : xk k1 = 7) (X : gX D (xcell g cI cB cZ cQ) xord g S s H locs) (hl : lv_has ls 2 [(0, .ref (g k0)), (1, .ref (g k1))]) (hF : fX0_add_b0 N k0 k1 S = some o) : W p l e (rmd 1) s m args below meth c H locs 0 0 (gE below args s D (xtys cI cB cZ cQ) (xcell g cI cB cZ cQ) xord g none o.2) (F0 m 0 ls []) := by
  unfold fX0_add_b0 at hF
  refine lv_aload_n C.1.1 C.1.2.1 dX0_add_0 rfl (lv_at hl 0 rfl) ?_
  refine xg_X0_17 C O.1 X (k := k0) hk_k0 dX0_add_1 ?_
  refine lv_bipush (v := 40) C.1.1 C.1.2.1 dX0_add_4 (by decide) ?_
  refine lv_icmp_lt (tgt := 36) C.1.1 C.1.2.1 dX0_add_6 (by decide) (fun h_z => ?_) (fun h_z => ?_)
  · rw [if_pos h_z] at hF
    exact bX0_add_36 C O (hk_k0 : xk k0 = 0) (hk_k1 : xk k1 = 7) X (lv_sub hl [0, 1] rfl) hF
  · rw [if_neg h_z] at hF
    exact bX0_add_9 C O (hk_k0 : xk k0 = 0) (hk_k1 : xk k1 = 7) X (lv_sub hl [0, 1] rfl) hF
noncomputable def fX0_add (N : Nat) (k0 : Nat) (k1 : Nat) (S : gS) : Option (Int32 × gS) := fX0_add_b0 N k0 k1 S
theorem kX0_add {l : Launch} {D : va_G} {g : Nat → Nat} {cI cB cZ cQ : ClassId} {Am : (Nat → Prop) → State → Heap → Prop} {aK aV : Nat → Nat} (O : xsO g cI cB cZ cQ Am aK aV) (P : gAm Am) (N : Nat) (k0 : Nat) (k1 : Nat) (hk_k0 : xk k0 = 0) (hk_k1 : xk k1 = 7) (S : gS) (o : Int32 × gS) (hF : fX0_add N k0 k1 S = some o) : gM l yX0_add cX0_add 2 none 1 D (xtys cI cB cZ cQ) (xcell g cI cB cZ cQ) xord g Am [.ref (g k0), .ref (g k1)] S none o.2 :=
  gM_of O.1.1 P (by decide) (Nat.le_of_ble_eq_true rfl) (fun p e s m args below meth c ls C X hl => bX0_add_0 C O hk_k0 hk_k1 X (lv_sub hl [0, 1] rfl) hF)
-- X0.copy
noncomputable def fX0_copy_b0 (N : Nat) (k0 : Nat) (k1 : Nat) (S : gS) : Option (Int32 × gS) := lt (sU S k0 1 (S k1 1)) fun S1 => (chk (acp (0 : Int32) (0 : Int32) (1040 : Int32) 1040 1040) (lt (sC S1 (k1 + 1) (k0 + 1) (Int32.toNatClampNeg (0 : Int32)) (Int32.toNatClampNeg (0 : Int32)) (Int32.toNatClampNeg (1040 : Int32))) fun S2 => (some (0, S2))))
theorem bX0_copy_0 {N : Nat} {k0 : Nat} {k1 : Nat} {S : gS} {H : Heap} {locs : List Loc} {ls : Array Slot} {o : Int32 × gS} (C : gC p s m args meth c cX0_copy 2 RX0 none D (xtys cI cB cZ cQ) xord g Am) (O : xsO g cI cB cZ cQ Am aK aV) (hk_k0 : xk k0 = 0) (hk_k1 : xk k1 = 0) (X : gX D (xcell g cI cB cZ cQ) xord g S s H locs) (hl : lv_has ls 2 [(0, .ref (g k0)), (1, .ref (g k1))]) (hF : fX0_copy_b0 N k0 k1 S = some o) : W p l e (rmd 1) s m args below meth c H locs 0 0 (gE below args s D (xtys cI cB cZ cQ) (xcell g cI cB cZ cQ) xord g none o.2) (F0 m 0 ls []) := by
  unfold fX0_copy_b0 at hF
  refine lv_aload_n C.1.1 C.1.2.1 dX0_copy_0 rfl (lv_at hl 0 rfl) ?_
  refine lv_aload_n C.1.1 C.1.2.1 dX0_copy_1 rfl (lv_at hl 1 rfl) ?_
  refine xg_X0_17 C O.1 X (k := k1) hk_k1 dX0_copy_2 ?_
  obtain ⟨S1, eS1, hF⟩ := lt_some hF
  refine xp_X0_17 C O.1 X (k := k0) hk_k0 eS1 dX0_copy_5 (fun H locs X => ?_)
  refine lv_aload_n C.1.1 C.1.2.1 dX0_copy_8 rfl (lv_at hl 1 rfl) ?_
  refine xg_X0_11 C O.1 X (k := k1) hk_k1 (j := k1 + 1) rfl dX0_copy_9 ?_
  refine lv_iconst (v := 0) C.1.1 C.1.2.1 dX0_copy_12 (by decide) ?_
  refine lv_aload_n C.1.1 C.1.2.1 dX0_copy_13 rfl (lv_at hl 0 rfl) ?_
  refine xg_X0_11 C O.1 X (k := k0) hk_k0 (j := k0 + 1) rfl dX0_copy_14 ?_
  refine lv_iconst (v := 0) C.1.1 C.1.2.1 dX0_copy_17 (by decide) ?_
  refine lv_aload_n C.1.1 C.1.2.1 dX0_copy_18 rfl (lv_at hl 0 rfl) ?_
  refine xg_X0_11 C O.1 X (k := k0) hk_k0 (j := k0 + 1) rfl dX0_copy_19 ?_
  refine x_lI C X (k := k0 + 1) (xs_0_0 hk_k0).1 (n := 1040) (xs_0_0 hk_k0).2 (x := 1040) (by decide) dX0_copy_22 ?_
  obtain ⟨h_1, hF⟩ := chk_some hF
  obtain ⟨S2, eS2, hF⟩ := lt_some hF
  refine x_copy C O.1 X hl.1 xcp_X0 (k0 := k1 + 1) (k1 := k0 + 1) (xs_0_0 hk_k1).1 (xs_0_0 hk_k0).1 (xs_0_0 hk_k1).2 (xs_0_0 hk_k0).2 h_1 eS2 (Nat.le_of_ble_eq_true rfl) (Nat.le_of_ble_eq_true rfl) (Nat.le_of_ble_eq_true rfl) (Nat.le_of_ble_eq_true rfl) dX0_copy_23 (fun H locs X => ?_)
  cases hF
  exact g_vret C X dX0_copy_26
noncomputable def fX0_copy (N : Nat) (k0 : Nat) (k1 : Nat) (S : gS) : Option (Int32 × gS) := fX0_copy_b0 N k0 k1 S
theorem kX0_copy {l : Launch} {D : va_G} {g : Nat → Nat} {cI cB cZ cQ : ClassId} {Am : (Nat → Prop) → State → Heap → Prop} {aK aV : Nat → Nat} (O : xsO g cI cB cZ cQ Am aK aV) (P : gAm Am) (N : Nat) (k0 : Nat) (k1 : Nat) (hk_k0 : xk k0 = 0) (hk_k1 : xk k1 = 0) (S : gS) (o : Int32 × gS) (hF : fX0_copy N k0 k1 S = some o) : gM l yX0_copy cX0_copy 2 none 1 D (xtys cI cB cZ cQ) (xcell g cI cB cZ cQ) xord g Am [.ref (g k0), .ref (g k1)] S none o.2 :=
  gM_of O.1.1 P (by decide) (Nat.le_of_ble_eq_true rfl) (fun p e s m args below meth c ls C X hl => bX0_copy_0 C O hk_k0 hk_k1 X (lv_sub hl [0, 1] rfl) hF)
-- X1.keepAct
noncomputable def fX1_keepAct_b0 (N : Nat) (k0 : Nat) (S : gS) : Option (Int32 × gS) := bnd (fX0_add N (k0 + 6) (k0 + 1) S) fun q1 => (some (0, q1.2))
theorem bX1_keepAct_0 {N : Nat} {k0 : Nat} {S : gS} {H : Heap} {locs : List Loc} {ls : Array Slot} {o : Int32 × gS} (C : gC p s m args meth c cX1_keepAct 1 RX1 none D (xtys cI cB cZ cQ) xord g Am) (O : xsO g cI cB cZ cQ Am aK aV) (hk_k0 : xk k0 = 1) (X : gX D (xcell g cI cB cZ cQ) xord g S s H locs) (hl : lv_has ls 1 [(0, .ref (g k0))]) (hF : fX1_keepAct_b0 N k0 S = some o) : W p l e (rmd 2) s m args below meth c H locs 0 0 (gE below args s D (xtys cI cB cZ cQ) (xcell g cI cB cZ cQ) xord g none o.2) (F0 m 0 ls []) := by
  unfold fX1_keepAct_b0 at hF
  refine lv_aload_n C.1.1 C.1.2.1 dX1_keepAct_0 rfl (lv_at hl 0 rfl) ?_
  refine xg_X1_21 C O.1 X (k := k0) hk_k0 (j := k0 + 6) rfl dX1_keepAct_1 ?_
  refine lv_aload_n C.1.1 C.1.2.1 dX1_keepAct_4 rfl (lv_at hl 0 rfl) ?_
  refine xg_X1_12 C O.1 X (k := k0) hk_k0 (j := k0 + 1) rfl dX1_keepAct_5 ?_
  obtain ⟨q1, hq1, hF⟩ := bnd_some hF
  refine x_callV C X (k := k0 + 6) xv_X1_45 (xs_1_1 hk_k0) rfl rfl (by decide) (kX0_add O C.2.2.2.2.1 N (k0 + 6) (k0 + 1) ((xs_1_1 hk_k0) : xk (k0 + 6) = 0) ((xs_1_0 hk_k0) : xk (k0 + 1) = 7) S q1 hq1) (Nat.le_of_ble_eq_true rfl) (Nat.le_of_ble_eq_true rfl) (Nat.le_of_ble_eq_true rfl) (Nat.le_of_ble_eq_true rfl) rfl hl.1 rfl (Nat.le_of_ble_eq_true rfl) dX1_keepAct_8 (fun H locs X => ?_)
  cases hF
  exact g_vret C X dX1_keepAct_11
noncomputable def fX1_keepAct (N : Nat) (k0 : Nat) (S : gS) : Option (Int32 × gS) := fX1_keepAct_b0 N k0 S
theorem kX1_keepAct {l : Launch} {D : va_G} {g : Nat → Nat} {cI cB cZ cQ : ClassId} {Am : (Nat → Prop) → State → Heap → Prop} {aK aV : Nat → Nat} (O : xsO g cI cB cZ cQ Am aK aV) (P : gAm Am) (N : Nat) (k0 : Nat) (hk_k0 : xk k0 = 1) (S : gS) (o : Int32 × gS) (hF : fX1_keepAct N k0 S = some o) : gM l yX1_keepAct cX1_keepAct 1 none 2 D (xtys cI cB cZ cQ) (xcell g cI cB cZ cQ) xord g Am [.ref (g k0)] S none o.2 :=
  gM_of O.1.1 P (by decide) (Nat.le_of_ble_eq_true rfl) (fun p e s m args below meth c ls C X hl => bX1_keepAct_0 C O hk_k0 X (lv_sub hl [0] rfl) hF)
-- X1.copy
noncomputable def fX1_copy_b58 (N : Nat) (S : gS) : Option (Int32 × gS) := some (0, S)
theorem bX1_copy_58 {N : Nat} {S : gS} {H : Heap} {locs : List Loc} {ls : Array Slot} {o : Int32 × gS} (C : gC p s m args meth c cX1_copy 3 RX1 none D (xtys cI cB cZ cQ) xord g Am) (O : xsO g cI cB cZ cQ Am aK aV) (X : gX D (xcell g cI cB cZ cQ) xord g S s H locs) (hl : lv_has ls 3 []) (hF : fX1_copy_b58 N S = some o) : W p l e (rmd 2) s m args below meth c H locs 0 0 (gE below args s D (xtys cI cB cZ cQ) (xcell g cI cB cZ cQ) xord g none o.2) (F0 m 58 ls []) := by
  unfold fX1_copy_b58 at hF
  cases hF
  exact g_vret C X dX1_copy_58
noncomputable def fX1_copy_b40 (N : Nat) (r35 : Nat → Nat → Int32 → gS → Option (Int32 × gS)) (k0 : Nat) (k1 : Nat) (x2 : Int32) (S : gS) : Option (Int32 × gS) := chk (inb x2 3) (chk (inb x2 3) (lt (sU S (k0 + 12) (Int32.toNatClampNeg x2) (S (k1 + 12) (Int32.toNatClampNeg x2))) fun S1 => (r35 k0 k1 ((x2 + 1 : Int32)) S1)))
theorem bX1_copy_40 {N : Nat} {r35 : Nat → Nat → Int32 → gS → Option (Int32 × gS)} {k0 : Nat} {k1 : Nat} {x2 : Int32} {S : gS} {H : Heap} {locs : List Loc} {ls : Array Slot} {o : Int32 × gS} (C : gC p s m args meth c cX1_copy 3 RX1 none D (xtys cI cB cZ cQ) xord g Am) (O : xsO g cI cB cZ cQ Am aK aV) (K35 : ∀ (k0 : Nat) (k1 : Nat) (x2 : Int32) (hk_k0 : xk k0 = 1) (hk_k1 : xk k1 = 1) (S : gS) (H : Heap) (locs : List Loc) (ls : Array Slot), gX D (xcell g cI cB cZ cQ) xord g S s H locs → lv_has ls 3 [(0, .ref (g k0)), (1, .ref (g k1)), (2, .int x2)] → r35 k0 k1 x2 S = some o → W p l e (rmd 2) s m args below meth c H locs 0 0 (gE below args s D (xtys cI cB cZ cQ) (xcell g cI cB cZ cQ) xord g none o.2) (F0 m 35 ls [])) (hk_k0 : xk k0 = 1) (hk_k1 : xk k1 = 1) (X : gX D (xcell g cI cB cZ cQ) xord g S s H locs) (hl : lv_has ls 3 [(0, .ref (g k0)), (1, .ref (g k1)), (2, .int x2)]) (hF : fX1_copy_b40 N r35 k0 k1 x2 S = some o) : W p l e (rmd 2) s m args below meth c H locs 0 0 (gE below args s D (xtys cI cB cZ cQ) (xcell g cI cB cZ cQ) xord g none o.2) (F0 m 40 ls []) := by
  unfold fX1_copy_b40 at hF
  refine lv_aload_n C.1.1 C.1.2.1 dX1_copy_40 rfl (lv_at hl 0 rfl) ?_
  refine xg_X1_32 C O.1 X (k := k0) hk_k0 (j := k0 + 12) rfl dX1_copy_41 ?_
  refine lv_iload_n C.1.1 C.1.2.1 dX1_copy_44 rfl (lv_at hl 2 rfl) ?_
  refine lv_aload_n C.1.1 C.1.2.1 dX1_copy_45 rfl (lv_at hl 1 rfl) ?_
  refine xg_X1_32 C O.1 X (k := k1) hk_k1 (j := k1 + 12) rfl dX1_copy_46 ?_
  refine lv_iload_n C.1.1 C.1.2.1 dX1_copy_49 rfl (lv_at hl 2 rfl) ?_
  obtain ⟨h_1, hF⟩ := chk_some hF
  refine x_rI C X (k := k1 + 12) (xs_1_3 hk_k1).1 (n := 3) (xs_1_3 hk_k1).2  (inb_vp h_1) rfl dX1_copy_50 ?_
  obtain ⟨h_2, hF⟩ := chk_some hF
  obtain ⟨S1, eS1, hF⟩ := lt_some hF
  refine x_wI C O.1 X (k := k0 + 12) (xs_1_3 hk_k0).1 (n := 3) (xs_1_3 hk_k0).2  (inb_vp h_2) rfl eS1 dX1_copy_51 (fun H locs X => ?_)
  refine lv_iinc (v := (x2 + 1 : Int32)) (lv' := [(2, .int ((x2 + 1 : Int32))), (0, .ref (g k0)), (1, .ref (g k1))]) C.1.1 C.1.2.1 dX1_copy_52 hl (k := 2) rfl rfl (by decide) rfl (fun ls hl => ?_)
  refine lv_goto (tgt := 35) C.1.1 C.1.2.1 dX1_copy_55 (by decide) ?_
  exact K35 _ _ _ (hk_k0 : xk k0 = 1) (hk_k1 : xk k1 = 1) _ _ _ _ X (lv_sub hl [1, 2, 0] rfl) hF
noncomputable def fX1_copy_b35 (N : Nat) (r35 : Nat → Nat → Int32 → gS → Option (Int32 × gS)) (k0 : Nat) (k1 : Nat) (x2 : Int32) (S : gS) : Option (Int32 × gS) := if 3 ≤ x2 then fX1_copy_b58 N S else fX1_copy_b40 N r35 k0 k1 x2 S
theorem bX1_copy_35 {N : Nat} {r35 : Nat → Nat → Int32 → gS → Option (Int32 × gS)} {k0 : Nat} {k1 : Nat} {x2 : Int32} {S : gS} {H : Heap} {locs : List Loc} {ls : Array Slot} {o : Int32 × gS} (C : gC p s m args meth c cX1_copy 3 RX1 none D (xtys cI cB cZ cQ) xord g Am) (O : xsO g cI cB cZ cQ Am aK aV) (K35 : ∀ (k0 : Nat) (k1 : Nat) (x2 : Int32) (hk_k0 : xk k0 = 1) (hk_k1 : xk k1 = 1) (S : gS) (H : Heap) (locs : List Loc) (ls : Array Slot), gX D (xcell g cI cB cZ cQ) xord g S s H locs → lv_has ls 3 [(0, .ref (g k0)), (1, .ref (g k1)), (2, .int x2)] → r35 k0 k1 x2 S = some o → W p l e (rmd 2) s m args below meth c H locs 0 0 (gE below args s D (xtys cI cB cZ cQ) (xcell g cI cB cZ cQ) xord g none o.2) (F0 m 35 ls [])) (hk_k0 : xk k0 = 1) (hk_k1 : xk k1 = 1) (X : gX D (xcell g cI cB cZ cQ) xord g S s H locs) (hl : lv_has ls 3 [(0, .ref (g k0)), (1, .ref (g k1)), (2, .int x2)]) (hF : fX1_copy_b35 N r35 k0 k1 x2 S = some o) : W p l e (rmd 2) s m args below meth c H locs 0 0 (gE below args s D (xtys cI cB cZ cQ) (xcell g cI cB cZ cQ) xord g none o.2) (F0 m 35 ls []) := by
  unfold fX1_copy_b35 at hF
  refine lv_iload_n C.1.1 C.1.2.1 dX1_copy_35 rfl (lv_at hl 2 rfl) ?_
  refine lv_iconst (v := 3) C.1.1 C.1.2.1 dX1_copy_36 (by decide) ?_
  refine lv_icmp_ge (tgt := 58) C.1.1 C.1.2.1 dX1_copy_37 (by decide) (fun h_z => ?_) (fun h_z => ?_)
  · rw [if_pos h_z] at hF
    exact bX1_copy_58 C O X (lv_sub hl [] rfl) hF
  · rw [if_neg h_z] at hF
    exact bX1_copy_40 C O K35 (hk_k0 : xk k0 = 1) (hk_k1 : xk k1 = 1) X (lv_sub hl [0, 1, 2] rfl) hF
noncomputable def fX1_copy_h35 (N : Nat) : Nat → Nat → Nat → Int32 → gS → Option (Int32 × gS)
  | 0, _, _, _, _ => none
  | n + 1, k0, k1, x2, S => fX1_copy_b35 N (fX1_copy_h35 N n) k0 k1 x2 S
theorem hX1_copy_35 {N : Nat} {o : Int32 × gS} (C : gC p s m args meth c cX1_copy 3 RX1 none D (xtys cI cB cZ cQ) xord g Am) (O : xsO g cI cB cZ cQ Am aK aV) : ∀ (n : Nat) (k0 : Nat) (k1 : Nat) (x2 : Int32) (hk_k0 : xk k0 = 1) (hk_k1 : xk k1 = 1) (S : gS) (H : Heap) (locs : List Loc) (ls : Array Slot), gX D (xcell g cI cB cZ cQ) xord g S s H locs → lv_has ls 3 [(0, .ref (g k0)), (1, .ref (g k1)), (2, .int x2)] → fX1_copy_h35 N n k0 k1 x2 S = some o → W p l e (rmd 2) s m args below meth c H locs 0 0 (gE below args s D (xtys cI cB cZ cQ) (xcell g cI cB cZ cQ) xord g none o.2) (F0 m 35 ls []) := by
  intro n
  induction n with
  | zero =>
    intro k0 k1 x2 hk_k0 hk_k1 S H locs ls X hl hF
    exact absurd (show (none : Option (Int32 × gS)) = some o from hF) (by simp)
  | succ n ih =>
    intro k0 k1 x2 hk_k0 hk_k1 S H locs ls X hl hF
    have hF : fX1_copy_b35 N (fX1_copy_h35 N n) k0 k1 x2 S = some o := hF
    exact bX1_copy_35 C O ih hk_k0 hk_k1 X hl hF
noncomputable def fX1_copy_b0 (N : Nat) (k0 : Nat) (k1 : Nat) (S : gS) : Option (Int32 × gS) := bnd (fX7_copy N (k0 + 1) (k1 + 1) S) fun q1 => (bnd (fX0_copy N (k0 + 6) (k1 + 6) q1.2) fun q2 => (bnd (fX5_copy N (k0 + 8) (k1 + 8) q2.2) fun q3 => (fX1_copy_h35 N N k0 k1 0 q3.2)))
theorem bX1_copy_0 {N : Nat} {k0 : Nat} {k1 : Nat} {S : gS} {H : Heap} {locs : List Loc} {ls : Array Slot} {o : Int32 × gS} (C : gC p s m args meth c cX1_copy 3 RX1 none D (xtys cI cB cZ cQ) xord g Am) (O : xsO g cI cB cZ cQ Am aK aV) (hk_k0 : xk k0 = 1) (hk_k1 : xk k1 = 1) (X : gX D (xcell g cI cB cZ cQ) xord g S s H locs) (hl : lv_has ls 3 [(0, .ref (g k0)), (1, .ref (g k1))]) (hF : fX1_copy_b0 N k0 k1 S = some o) : W p l e (rmd 2) s m args below meth c H locs 0 0 (gE below args s D (xtys cI cB cZ cQ) (xcell g cI cB cZ cQ) xord g none o.2) (F0 m 0 ls []) := by
  unfold fX1_copy_b0 at hF
  refine lv_aload_n C.1.1 C.1.2.1 dX1_copy_0 rfl (lv_at hl 0 rfl) ?_
  refine xg_X1_12 C O.1 X (k := k0) hk_k0 (j := k0 + 1) rfl dX1_copy_1 ?_
  refine lv_aload_n C.1.1 C.1.2.1 dX1_copy_4 rfl (lv_at hl 1 rfl) ?_
  refine xg_X1_12 C O.1 X (k := k1) hk_k1 (j := k1 + 1) rfl dX1_copy_5 ?_
  obtain ⟨q1, hq1, hF⟩ := bnd_some hF
  refine x_callV C X (k := k0 + 1) xv_X1_49 (xs_1_0 hk_k0) rfl rfl (by decide) (kX7_copy O.1 C.2.2.2.2.1 N (k0 + 1) (k1 + 1) ((xs_1_0 hk_k0) : xk (k0 + 1) = 7) ((xs_1_0 hk_k1) : xk (k1 + 1) = 7) S q1 hq1) (Nat.le_of_ble_eq_true rfl) (Nat.le_of_ble_eq_true rfl) (Nat.le_of_ble_eq_true rfl) (Nat.le_of_ble_eq_true rfl) rfl hl.1 rfl (Nat.le_of_ble_eq_true rfl) dX1_copy_8 (fun H locs X => ?_)
  refine lv_aload_n C.1.1 C.1.2.1 dX1_copy_11 rfl (lv_at hl 0 rfl) ?_
  refine xg_X1_21 C O.1 X (k := k0) hk_k0 (j := k0 + 6) rfl dX1_copy_12 ?_
  refine lv_aload_n C.1.1 C.1.2.1 dX1_copy_15 rfl (lv_at hl 1 rfl) ?_
  refine xg_X1_21 C O.1 X (k := k1) hk_k1 (j := k1 + 6) rfl dX1_copy_16 ?_
  obtain ⟨q2, hq2, hF⟩ := bnd_some hF
  refine x_callV C X (k := k0 + 6) xv_X1_52 (xs_1_1 hk_k0) rfl rfl (by decide) (kX0_copy O C.2.2.2.2.1 N (k0 + 6) (k1 + 6) ((xs_1_1 hk_k0) : xk (k0 + 6) = 0) ((xs_1_1 hk_k1) : xk (k1 + 6) = 0) q1.2 q2 hq2) (Nat.le_of_ble_eq_true rfl) (Nat.le_of_ble_eq_true rfl) (Nat.le_of_ble_eq_true rfl) (Nat.le_of_ble_eq_true rfl) rfl hl.1 rfl (Nat.le_of_ble_eq_true rfl) dX1_copy_19 (fun H locs X => ?_)
  refine lv_aload_n C.1.1 C.1.2.1 dX1_copy_22 rfl (lv_at hl 0 rfl) ?_
  refine xg_X1_28 C O.1 X (k := k0) hk_k0 (j := k0 + 8) rfl dX1_copy_23 ?_
  refine lv_aload_n C.1.1 C.1.2.1 dX1_copy_26 rfl (lv_at hl 1 rfl) ?_
  refine xg_X1_28 C O.1 X (k := k1) hk_k1 (j := k1 + 8) rfl dX1_copy_27 ?_
  obtain ⟨q3, hq3, hF⟩ := bnd_some hF
  refine x_callV C X (k := k0 + 8) xv_X1_55 (xs_1_2 hk_k0) rfl rfl (by decide) (kX5_copy O.1 C.2.2.2.2.1 N (k0 + 8) (k1 + 8) ((xs_1_2 hk_k0) : xk (k0 + 8) = 5) ((xs_1_2 hk_k1) : xk (k1 + 8) = 5) q2.2 q3 hq3) (Nat.le_of_ble_eq_true rfl) (Nat.le_of_ble_eq_true rfl) (Nat.le_of_ble_eq_true rfl) (Nat.le_of_ble_eq_true rfl) rfl hl.1 rfl (Nat.le_of_ble_eq_true rfl) dX1_copy_30 (fun H locs X => ?_)
  refine lv_iconst (v := 0) C.1.1 C.1.2.1 dX1_copy_33 (by decide) ?_
  refine lv_istore_n (lv' := [(2, .int 0), (0, .ref (g k0)), (1, .ref (g k1))]) C.1.1 C.1.2.1 dX1_copy_34 rfl hl (by decide) rfl (fun ls hl => ?_)
  exact hX1_copy_35 C O N _ _ _ (hk_k0 : xk k0 = 1) (hk_k1 : xk k1 = 1) _ _ _ _ X (lv_sub hl [1, 2, 0] rfl) hF
noncomputable def fX1_copy (N : Nat) (k0 : Nat) (k1 : Nat) (S : gS) : Option (Int32 × gS) := fX1_copy_b0 N k0 k1 S
theorem kX1_copy {l : Launch} {D : va_G} {g : Nat → Nat} {cI cB cZ cQ : ClassId} {Am : (Nat → Prop) → State → Heap → Prop} {aK aV : Nat → Nat} (O : xsO g cI cB cZ cQ Am aK aV) (P : gAm Am) (N : Nat) (k0 : Nat) (k1 : Nat) (hk_k0 : xk k0 = 1) (hk_k1 : xk k1 = 1) (S : gS) (o : Int32 × gS) (hF : fX1_copy N k0 k1 S = some o) : gM l yX1_copy cX1_copy 3 none 2 D (xtys cI cB cZ cQ) (xcell g cI cB cZ cQ) xord g Am [.ref (g k0), .ref (g k1)] S none o.2 :=
  gM_of O.1.1 P (by decide) (Nat.le_of_ble_eq_true rfl) (fun p e s m args below meth c ls C X hl => bX1_copy_0 C O hk_k0 hk_k1 X (lv_sub hl [0, 1] rfl) hF)
-- X2.unlikeBehind
noncomputable def fX2_unlikeBehind_b26 (N : Nat) (t0 : Int32) (S : gS) : Option (Int32 × gS) := some (t0, S)
theorem bX2_unlikeBehind_26 {N : Nat} {t0 : Int32} {S : gS} {H : Heap} {locs : List Loc} {ls : Array Slot} {o : Int32 × gS} (C : gC p s m args meth c cX2_unlikeBehind 2 RX2 ((some .int)) D (xtys cI cB cZ cQ) xord g Am) (O : xsO g cI cB cZ cQ Am aK aV) (X : gX D (xcell g cI cB cZ cQ) xord g S s H locs) (hl : lv_has ls 2 []) (hF : fX2_unlikeBehind_b26 N t0 S = some o) : W p l e (rmd 1) s m args below meth c H locs 0 0 (gE below args s D (xtys cI cB cZ cQ) (xcell g cI cB cZ cQ) xord g (some (.int o.1)) o.2) (F0 m 26 ls [.int t0]) := by
  unfold fX2_unlikeBehind_b26 at hF
  cases hF
  exact g_iret C X dX2_unlikeBehind_26
noncomputable def fX2_unlikeBehind_b25 (N : Nat) (S : gS) : Option (Int32 × gS) := fX2_unlikeBehind_b26 N 0 S
theorem bX2_unlikeBehind_25 {N : Nat} {S : gS} {H : Heap} {locs : List Loc} {ls : Array Slot} {o : Int32 × gS} (C : gC p s m args meth c cX2_unlikeBehind 2 RX2 ((some .int)) D (xtys cI cB cZ cQ) xord g Am) (O : xsO g cI cB cZ cQ Am aK aV) (X : gX D (xcell g cI cB cZ cQ) xord g S s H locs) (hl : lv_has ls 2 []) (hF : fX2_unlikeBehind_b25 N S = some o) : W p l e (rmd 1) s m args below meth c H locs 0 0 (gE below args s D (xtys cI cB cZ cQ) (xcell g cI cB cZ cQ) xord g (some (.int o.1)) o.2) (F0 m 25 ls []) := by
  unfold fX2_unlikeBehind_b25 at hF
  refine lv_iconst (v := 0) C.1.1 C.1.2.1 dX2_unlikeBehind_25 (by decide) ?_
  exact bX2_unlikeBehind_26 C O X (lv_sub hl [] rfl) hF
noncomputable def fX2_unlikeBehind_b13 (N : Nat) (x1 : Int32) (S : gS) : Option (Int32 × gS) := chk (inb x1 21) (bnd (fJ6_bitCount_0f7a4 N (S 71 (Int32.toNatClampNeg x1)) S) fun q1 => (fX2_unlikeBehind_b26 N q1.1 q1.2))
theorem bX2_unlikeBehind_13 {N : Nat} {x1 : Int32} {S : gS} {H : Heap} {locs : List Loc} {ls : Array Slot} {o : Int32 × gS} (C : gC p s m args meth c cX2_unlikeBehind 2 RX2 ((some .int)) D (xtys cI cB cZ cQ) xord g Am) (O : xsO g cI cB cZ cQ Am aK aV) (X : gX D (xcell g cI cB cZ cQ) xord g S s H locs) (hl : lv_has ls 2 [(0, .ref (g 62)), (1, .int x1)]) (hF : fX2_unlikeBehind_b13 N x1 S = some o) : W p l e (rmd 1) s m args below meth c H locs 0 0 (gE below args s D (xtys cI cB cZ cQ) (xcell g cI cB cZ cQ) xord g (some (.int o.1)) o.2) (F0 m 13 ls []) := by
  unfold fX2_unlikeBehind_b13 at hF
  refine lv_aload_n C.1.1 C.1.2.1 dX2_unlikeBehind_13 rfl (lv_at hl 0 rfl) ?_
  refine xg_X2_20 C O.1 X (k := 62) rfl (j := 71) rfl dX2_unlikeBehind_14 ?_
  refine lv_iload_n C.1.1 C.1.2.1 dX2_unlikeBehind_17 rfl (lv_at hl 1 rfl) ?_
  obtain ⟨h_1, hF⟩ := chk_some hF
  refine x_rI C X (k := 71) rfl (n := 21) rfl  (inb_vp h_1) rfl dX2_unlikeBehind_18 ?_
  obtain ⟨q1, hq1, hF⟩ := bnd_some hF
  refine g_callOi C X xv_X2_71 (kJ6_bitCount_0f7a4 (xs_sO O) C.2.2.2.2.1 N (S 71 (Int32.toNatClampNeg x1)) S q1 hq1) (Nat.le_of_ble_eq_true rfl) (Nat.le_of_ble_eq_true rfl) (Nat.le_of_ble_eq_true rfl) (Nat.le_of_ble_eq_true rfl) rfl hl.1 rfl (Nat.le_of_ble_eq_true rfl) dX2_unlikeBehind_19 (fun H locs X => ?_)
  refine lv_goto (tgt := 26) C.1.1 C.1.2.1 dX2_unlikeBehind_22 (by decide) ?_
  exact bX2_unlikeBehind_26 C O X (lv_sub hl [] rfl) hF
noncomputable def fX2_unlikeBehind_b4 (N : Nat) (x1 : Int32) (S : gS) : Option (Int32 × gS) := if 21 ≤ x1 then fX2_unlikeBehind_b25 N S else fX2_unlikeBehind_b13 N x1 S
theorem bX2_unlikeBehind_4 {N : Nat} {x1 : Int32} {S : gS} {H : Heap} {locs : List Loc} {ls : Array Slot} {o : Int32 × gS} (C : gC p s m args meth c cX2_unlikeBehind 2 RX2 ((some .int)) D (xtys cI cB cZ cQ) xord g Am) (O : xsO g cI cB cZ cQ Am aK aV) (X : gX D (xcell g cI cB cZ cQ) xord g S s H locs) (hl : lv_has ls 2 [(0, .ref (g 62)), (1, .int x1)]) (hF : fX2_unlikeBehind_b4 N x1 S = some o) : W p l e (rmd 1) s m args below meth c H locs 0 0 (gE below args s D (xtys cI cB cZ cQ) (xcell g cI cB cZ cQ) xord g (some (.int o.1)) o.2) (F0 m 4 ls []) := by
  unfold fX2_unlikeBehind_b4 at hF
  refine lv_iload_n C.1.1 C.1.2.1 dX2_unlikeBehind_4 rfl (lv_at hl 1 rfl) ?_
  refine lv_aload_n C.1.1 C.1.2.1 dX2_unlikeBehind_5 rfl (lv_at hl 0 rfl) ?_
  refine xg_X2_20 C O.1 X (k := 62) rfl (j := 71) rfl dX2_unlikeBehind_6 ?_
  refine x_lI C X (k := 71) rfl (n := 21) rfl (x := 21) (by decide) dX2_unlikeBehind_9 ?_
  refine lv_icmp_ge (tgt := 25) C.1.1 C.1.2.1 dX2_unlikeBehind_10 (by decide) (fun h_z => ?_) (fun h_z => ?_)
  · rw [if_pos h_z] at hF
    exact bX2_unlikeBehind_25 C O X (lv_sub hl [] rfl) hF
  · rw [if_neg h_z] at hF
    exact bX2_unlikeBehind_13 C O X (lv_sub hl [0, 1] rfl) hF
noncomputable def fX2_unlikeBehind_b0 (N : Nat) (x1 : Int32) (S : gS) : Option (Int32 × gS) := if x1 < 0 then fX2_unlikeBehind_b25 N S else fX2_unlikeBehind_b4 N x1 S
theorem bX2_unlikeBehind_0 {N : Nat} {x1 : Int32} {S : gS} {H : Heap} {locs : List Loc} {ls : Array Slot} {o : Int32 × gS} (C : gC p s m args meth c cX2_unlikeBehind 2 RX2 ((some .int)) D (xtys cI cB cZ cQ) xord g Am) (O : xsO g cI cB cZ cQ Am aK aV) (X : gX D (xcell g cI cB cZ cQ) xord g S s H locs) (hl : lv_has ls 2 [(0, .ref (g 62)), (1, .int x1)]) (hF : fX2_unlikeBehind_b0 N x1 S = some o) : W p l e (rmd 1) s m args below meth c H locs 0 0 (gE below args s D (xtys cI cB cZ cQ) (xcell g cI cB cZ cQ) xord g (some (.int o.1)) o.2) (F0 m 0 ls []) := by
  unfold fX2_unlikeBehind_b0 at hF
  refine lv_iload_n C.1.1 C.1.2.1 dX2_unlikeBehind_0 rfl (lv_at hl 1 rfl) ?_
  refine lv_if_lt (tgt := 25) C.1.1 C.1.2.1 dX2_unlikeBehind_1 (by decide) (fun h_z => ?_) (fun h_z => ?_)
  · rw [if_pos h_z] at hF
    exact bX2_unlikeBehind_25 C O X (lv_sub hl [] rfl) hF
  · rw [if_neg h_z] at hF
    exact bX2_unlikeBehind_4 C O X (lv_sub hl [0, 1] rfl) hF
noncomputable def fX2_unlikeBehind (N : Nat) (x1 : Int32) (S : gS) : Option (Int32 × gS) := fX2_unlikeBehind_b0 N x1 S
theorem kX2_unlikeBehind {l : Launch} {D : va_G} {g : Nat → Nat} {cI cB cZ cQ : ClassId} {Am : (Nat → Prop) → State → Heap → Prop} {aK aV : Nat → Nat} (O : xsO g cI cB cZ cQ Am aK aV) (P : gAm Am) (N : Nat) (x1 : Int32) (S : gS) (o : Int32 × gS) (hF : fX2_unlikeBehind N x1 S = some o) : gM l yX2_unlikeBehind cX2_unlikeBehind 2 ((some .int)) 1 D (xtys cI cB cZ cQ) (xcell g cI cB cZ cQ) xord g Am [.ref (g 62), .int x1] S (some (.int o.1)) o.2 :=
  gM_of O.1.1 P (by decide) (Nat.le_of_ble_eq_true rfl) (fun p e s m args below meth c ls C X hl => bX2_unlikeBehind_0 C O X (lv_sub hl [0, 1] rfl) hF)
-- X6.share
noncomputable def fX6_share_b156 (N : Nat) (S : gS) : Option (Int32 × gS) := some (0, S)
theorem bX6_share_156 {N : Nat} {S : gS} {H : Heap} {locs : List Loc} {ls : Array Slot} {o : Int32 × gS} (C : gC p s m args meth c cX6_share 6 RX6 none D (xtys cI cB cZ cQ) xord g Am) (O : xsO g cI cB cZ cQ Am aK aV) (X : gX D (xcell g cI cB cZ cQ) xord g S s H locs) (hl : lv_has ls 6 []) (hF : fX6_share_b156 N S = some o) : W p l e (rmd 3) s m args below meth c H locs 0 0 (gE below args s D (xtys cI cB cZ cQ) (xcell g cI cB cZ cQ) xord g none o.2) (F0 m 156 ls []) := by
  unfold fX6_share_b156 at hF
  cases hF
  exact g_vret C X dX6_share_156
noncomputable def fX6_share_b150 (N : Nat) (r79 : Nat → Nat → Int32 → Int32 → gS → Option (Int32 × gS)) (k1 : Nat) (k2 : Nat) (x3 : Int32) (x4 : Int32) (S : gS) : Option (Int32 × gS) := r79 k1 k2 x3 ((x4 + 1 : Int32)) S
theorem bX6_share_150 {N : Nat} {r79 : Nat → Nat → Int32 → Int32 → gS → Option (Int32 × gS)} {k1 : Nat} {k2 : Nat} {x3 : Int32} {x4 : Int32} {S : gS} {H : Heap} {locs : List Loc} {ls : Array Slot} {o : Int32 × gS} (C : gC p s m args meth c cX6_share 6 RX6 none D (xtys cI cB cZ cQ) xord g Am) (O : xsO g cI cB cZ cQ Am aK aV) (K79 : ∀ (k1 : Nat) (k2 : Nat) (x3 : Int32) (x4 : Int32) (hk_k1 : xk k1 = 9) (hk_k2 : xk k2 = 7) (S : gS) (H : Heap) (locs : List Loc) (ls : Array Slot), gX D (xcell g cI cB cZ cQ) xord g S s H locs → lv_has ls 6 [(0, .ref (g 52)), (1, .ref (g k1)), (2, .ref (g k2)), (3, .int x3), (4, .int x4)] → r79 k1 k2 x3 x4 S = some o → W p l e (rmd 3) s m args below meth c H locs 0 0 (gE below args s D (xtys cI cB cZ cQ) (xcell g cI cB cZ cQ) xord g none o.2) (F0 m 79 ls [])) (hk_k1 : xk k1 = 9) (hk_k2 : xk k2 = 7) (X : gX D (xcell g cI cB cZ cQ) xord g S s H locs) (hl : lv_has ls 6 [(0, .ref (g 52)), (1, .ref (g k1)), (2, .ref (g k2)), (3, .int x3), (4, .int x4)]) (hF : fX6_share_b150 N r79 k1 k2 x3 x4 S = some o) : W p l e (rmd 3) s m args below meth c H locs 0 0 (gE below args s D (xtys cI cB cZ cQ) (xcell g cI cB cZ cQ) xord g none o.2) (F0 m 150 ls []) := by
  unfold fX6_share_b150 at hF
  refine lv_iinc (v := (x4 + 1 : Int32)) (lv' := [(4, .int ((x4 + 1 : Int32))), (0, .ref (g 52)), (1, .ref (g k1)), (2, .ref (g k2)), (3, .int x3)]) C.1.1 C.1.2.1 dX6_share_150 hl (k := 4) rfl rfl (by decide) rfl (fun ls hl => ?_)
  refine lv_goto (tgt := 79) C.1.1 C.1.2.1 dX6_share_153 (by decide) ?_
  exact K79 _ _ _ _ (hk_k1 : xk k1 = 9) (hk_k2 : xk k2 = 7) _ _ _ _ X (lv_sub hl [1, 2, 3, 4, 0] rfl) hF
noncomputable def fX6_share_b117 (N : Nat) (r79 : Nat → Nat → Int32 → Int32 → gS → Option (Int32 × gS)) (k1 : Nat) (k2 : Nat) (x3 : Int32) (x4 : Int32) (x5 : Int32) (S : gS) : Option (Int32 × gS) := lt (sU S 52 2 (((S 52 2) + 1 : Int32))) fun S1 => (chk (inb x5 8) (lt (sU S1 52 3 (((S1 52 3) + (S1 (k1 + 3) (Int32.toNatClampNeg x5)) : Int32))) fun S2 => (fX6_share_b150 N r79 k1 k2 ((x3 ||| (((1 : Int32) <<< (x5 &&& 31) : Int32)) : Int32)) x4 S2)))
theorem bX6_share_117 {N : Nat} {r79 : Nat → Nat → Int32 → Int32 → gS → Option (Int32 × gS)} {k1 : Nat} {k2 : Nat} {x3 : Int32} {x4 : Int32} {x5 : Int32} {S : gS} {H : Heap} {locs : List Loc} {ls : Array Slot} {o : Int32 × gS} (C : gC p s m args meth c cX6_share 6 RX6 none D (xtys cI cB cZ cQ) xord g Am) (O : xsO g cI cB cZ cQ Am aK aV) (K79 : ∀ (k1 : Nat) (k2 : Nat) (x3 : Int32) (x4 : Int32) (hk_k1 : xk k1 = 9) (hk_k2 : xk k2 = 7) (S : gS) (H : Heap) (locs : List Loc) (ls : Array Slot), gX D (xcell g cI cB cZ cQ) xord g S s H locs → lv_has ls 6 [(0, .ref (g 52)), (1, .ref (g k1)), (2, .ref (g k2)), (3, .int x3), (4, .int x4)] → r79 k1 k2 x3 x4 S = some o → W p l e (rmd 3) s m args below meth c H locs 0 0 (gE below args s D (xtys cI cB cZ cQ) (xcell g cI cB cZ cQ) xord g none o.2) (F0 m 79 ls [])) (hk_k1 : xk k1 = 9) (hk_k2 : xk k2 = 7) (X : gX D (xcell g cI cB cZ cQ) xord g S s H locs) (hl : lv_has ls 6 [(0, .ref (g 52)), (1, .ref (g k1)), (2, .ref (g k2)), (3, .int x3), (4, .int x4), (5, .int x5)]) (hF : fX6_share_b117 N r79 k1 k2 x3 x4 x5 S = some o) : W p l e (rmd 3) s m args below meth c H locs 0 0 (gE below args s D (xtys cI cB cZ cQ) (xcell g cI cB cZ cQ) xord g none o.2) (F0 m 117 ls []) := by
  unfold fX6_share_b117 at hF
  refine lv_iload_n C.1.1 C.1.2.1 dX6_share_117 rfl (lv_at hl 3 rfl) ?_
  refine lv_iconst (v := 1) C.1.1 C.1.2.1 dX6_share_118 (by decide) ?_
  refine lv_iload C.1.1 C.1.2.1 dX6_share_119 (lv_at hl 5 rfl) ?_
  refine lv_ishl C.1.1 C.1.2.1 dX6_share_121 ?_
  refine lv_ior C.1.1 C.1.2.1 dX6_share_122 ?_
  refine lv_istore_n (lv' := [(3, .int ((x3 ||| (((1 : Int32) <<< (x5 &&& 31) : Int32)) : Int32))), (0, .ref (g 52)), (1, .ref (g k1)), (2, .ref (g k2)), (4, .int x4), (5, .int x5)]) C.1.1 C.1.2.1 dX6_share_123 rfl hl (by decide) rfl (fun ls hl => ?_)
  refine lv_aload_n C.1.1 C.1.2.1 dX6_share_124 rfl (lv_at hl 1 rfl) ?_
  refine lv_dup C.1.1 C.1.2.1 dX6_share_125 rfl ?_
  refine xg_X6_20 C O.1 X (k := 52) rfl dX6_share_126 ?_
  refine lv_iconst (v := 1) C.1.1 C.1.2.1 dX6_share_129 (by decide) ?_
  refine lv_iadd C.1.1 C.1.2.1 dX6_share_130 ?_
  obtain ⟨S1, eS1, hF⟩ := lt_some hF
  refine xp_X6_20 C O.1 X (k := 52) rfl eS1 dX6_share_131 (fun H locs X => ?_)
  refine lv_aload_n C.1.1 C.1.2.1 dX6_share_134 rfl (lv_at hl 1 rfl) ?_
  refine lv_dup C.1.1 C.1.2.1 dX6_share_135 rfl ?_
  refine xg_X6_24 C O.1 X (k := 52) rfl dX6_share_136 ?_
  refine lv_aload_n C.1.1 C.1.2.1 dX6_share_139 rfl (lv_at hl 2 rfl) ?_
  refine xg_X6_52 C O.1 X (k := k1) hk_k1 (j := k1 + 3) rfl dX6_share_140 ?_
  refine lv_iload C.1.1 C.1.2.1 dX6_share_143 (lv_at hl 5 rfl) ?_
  obtain ⟨h_1, hF⟩ := chk_some hF
  refine x_rI C X (k := k1 + 3) (xs_9_3 hk_k1).1 (n := 8) (xs_9_3 hk_k1).2  (inb_vp h_1) rfl dX6_share_145 ?_
  refine lv_iadd C.1.1 C.1.2.1 dX6_share_146 ?_
  obtain ⟨S2, eS2, hF⟩ := lt_some hF
  refine xp_X6_24 C O.1 X (k := 52) rfl eS2 dX6_share_147 (fun H locs X => ?_)
  exact bX6_share_150 C O K79 (hk_k1 : xk k1 = 9) (hk_k2 : xk k2 = 7) X (lv_sub hl [1, 2, 3, 0, 4] rfl) hF
noncomputable def fX6_share_b88 (N : Nat) (r79 : Nat → Nat → Int32 → Int32 → gS → Option (Int32 × gS)) (k1 : Nat) (k2 : Nat) (x3 : Int32) (x4 : Int32) (S : gS) : Option (Int32 × gS) := bnd (fX6_choice N k1 k2 x4 x3 S) fun q1 => (chk (inb x4 6) (lt (sU q1.2 61 (Int32.toNatClampNeg x4) q1.1) fun S1 => (bnd (fX9_isGrotto N k1 q1.1 S1) fun q2 => (if q2.1 = 0 then fX6_share_b150 N r79 k1 k2 x3 x4 q2.2 else fX6_share_b117 N r79 k1 k2 x3 x4 q1.1 q2.2))))
theorem bX6_share_88 {N : Nat} {r79 : Nat → Nat → Int32 → Int32 → gS → Option (Int32 × gS)} {k1 : Nat} {k2 : Nat} {x3 : Int32} {x4 : Int32} {S : gS} {H : Heap} {locs : List Loc} {ls : Array Slot} {o : Int32 × gS} (C : gC p s m args meth c cX6_share 6 RX6 none D (xtys cI cB cZ cQ) xord g Am) (O : xsO g cI cB cZ cQ Am aK aV) (K79 : ∀ (k1 : Nat) (k2 : Nat) (x3 : Int32) (x4 : Int32) (hk_k1 : xk k1 = 9) (hk_k2 : xk k2 = 7) (S : gS) (H : Heap) (locs : List Loc) (ls : Array Slot), gX D (xcell g cI cB cZ cQ) xord g S s H locs → lv_has ls 6 [(0, .ref (g 52)), (1, .ref (g k1)), (2, .ref (g k2)), (3, .int x3), (4, .int x4)] → r79 k1 k2 x3 x4 S = some o → W p l e (rmd 3) s m args below meth c H locs 0 0 (gE below args s D (xtys cI cB cZ cQ) (xcell g cI cB cZ cQ) xord g none o.2) (F0 m 79 ls [])) (hk_k1 : xk k1 = 9) (hk_k2 : xk k2 = 7) (X : gX D (xcell g cI cB cZ cQ) xord g S s H locs) (hl : lv_has ls 6 [(0, .ref (g 52)), (1, .ref (g k1)), (2, .ref (g k2)), (3, .int x3), (4, .int x4)]) (hF : fX6_share_b88 N r79 k1 k2 x3 x4 S = some o) : W p l e (rmd 3) s m args below meth c H locs 0 0 (gE below args s D (xtys cI cB cZ cQ) (xcell g cI cB cZ cQ) xord g none o.2) (F0 m 88 ls []) := by
  unfold fX6_share_b88 at hF
  refine lv_aload_n C.1.1 C.1.2.1 dX6_share_88 rfl (lv_at hl 0 rfl) ?_
  refine lv_aload_n C.1.1 C.1.2.1 dX6_share_89 rfl (lv_at hl 1 rfl) ?_
  refine lv_aload_n C.1.1 C.1.2.1 dX6_share_90 rfl (lv_at hl 2 rfl) ?_
  refine lv_iload C.1.1 C.1.2.1 dX6_share_91 (lv_at hl 4 rfl) ?_
  refine lv_iload_n C.1.1 C.1.2.1 dX6_share_93 rfl (lv_at hl 3 rfl) ?_
  obtain ⟨q1, hq1, hF⟩ := bnd_some hF
  refine x_callVi C X (k := 52) xv_X6_45 (rfl : xk 52 = 6) rfl rfl (by decide) (kX6_choice O.1 C.2.2.2.2.1 N k1 k2 x4 x3 (hk_k1 : xk k1 = 9) (hk_k2 : xk k2 = 7) S q1 hq1) (Nat.le_of_ble_eq_true rfl) (Nat.le_of_ble_eq_true rfl) (Nat.le_of_ble_eq_true rfl) (Nat.le_of_ble_eq_true rfl) rfl hl.1 rfl (Nat.le_of_ble_eq_true rfl) dX6_share_94 (fun H locs X => ?_)
  refine lv_istore (lv' := [(5, .int q1.1), (0, .ref (g 52)), (1, .ref (g k1)), (2, .ref (g k2)), (3, .int x3), (4, .int x4)]) C.1.1 C.1.2.1 dX6_share_97 hl (by decide) rfl (fun ls hl => ?_)
  refine lv_aload_n C.1.1 C.1.2.1 dX6_share_99 rfl (lv_at hl 1 rfl) ?_
  refine xg_X6_16 C O.1 X (k := 52) rfl (j := 61) rfl dX6_share_100 ?_
  refine lv_iload C.1.1 C.1.2.1 dX6_share_103 (lv_at hl 5 rfl) ?_
  refine lv_iload C.1.1 C.1.2.1 dX6_share_105 (lv_at hl 0 rfl) ?_
  obtain ⟨h_1, hF⟩ := chk_some hF
  obtain ⟨S1, eS1, hF⟩ := lt_some hF
  refine x_wI C O.1 X (k := 61) rfl (n := 6) rfl  (inb_vp h_1) rfl eS1 dX6_share_107 (fun H locs X => ?_)
  refine lv_aload_n C.1.1 C.1.2.1 dX6_share_108 rfl (lv_at hl 2 rfl) ?_
  refine lv_iload C.1.1 C.1.2.1 dX6_share_109 (lv_at hl 0 rfl) ?_
  obtain ⟨q2, hq2, hF⟩ := bnd_some hF
  refine x_callVi C X (k := k1) xv_X6_48 hk_k1 rfl rfl (by decide) (kX9_isGrotto O.1 C.2.2.2.2.1 N k1 q1.1 (hk_k1 : xk k1 = 9) S1 q2 hq2) (Nat.le_of_ble_eq_true rfl) (Nat.le_of_ble_eq_true rfl) (Nat.le_of_ble_eq_true rfl) (Nat.le_of_ble_eq_true rfl) rfl hl.1 rfl (Nat.le_of_ble_eq_true rfl) dX6_share_111 (fun H locs X => ?_)
  refine lv_if_eq (tgt := 150) C.1.1 C.1.2.1 dX6_share_114 (by decide) (fun h_z => ?_) (fun h_z => ?_)
  · rw [if_pos h_z] at hF
    exact bX6_share_150 C O K79 (hk_k1 : xk k1 = 9) (hk_k2 : xk k2 = 7) X (lv_sub hl [1, 2, 3, 4, 5] rfl) hF
  · rw [if_neg h_z] at hF
    exact bX6_share_117 C O K79 (hk_k1 : xk k1 = 9) (hk_k2 : xk k2 = 7) X (lv_sub hl [1, 2, 3, 4, 5, 0] rfl) hF
noncomputable def fX6_share_b79 (N : Nat) (r79 : Nat → Nat → Int32 → Int32 → gS → Option (Int32 × gS)) (k1 : Nat) (k2 : Nat) (x3 : Int32) (x4 : Int32) (S : gS) : Option (Int32 × gS) := if (S k1 5) ≤ x4 then fX6_share_b156 N S else fX6_share_b88 N r79 k1 k2 x3 x4 S
theorem bX6_share_79 {N : Nat} {r79 : Nat → Nat → Int32 → Int32 → gS → Option (Int32 × gS)} {k1 : Nat} {k2 : Nat} {x3 : Int32} {x4 : Int32} {S : gS} {H : Heap} {locs : List Loc} {ls : Array Slot} {o : Int32 × gS} (C : gC p s m args meth c cX6_share 6 RX6 none D (xtys cI cB cZ cQ) xord g Am) (O : xsO g cI cB cZ cQ Am aK aV) (K79 : ∀ (k1 : Nat) (k2 : Nat) (x3 : Int32) (x4 : Int32) (hk_k1 : xk k1 = 9) (hk_k2 : xk k2 = 7) (S : gS) (H : Heap) (locs : List Loc) (ls : Array Slot), gX D (xcell g cI cB cZ cQ) xord g S s H locs → lv_has ls 6 [(0, .ref (g 52)), (1, .ref (g k1)), (2, .ref (g k2)), (3, .int x3), (4, .int x4)] → r79 k1 k2 x3 x4 S = some o → W p l e (rmd 3) s m args below meth c H locs 0 0 (gE below args s D (xtys cI cB cZ cQ) (xcell g cI cB cZ cQ) xord g none o.2) (F0 m 79 ls [])) (hk_k1 : xk k1 = 9) (hk_k2 : xk k2 = 7) (X : gX D (xcell g cI cB cZ cQ) xord g S s H locs) (hl : lv_has ls 6 [(0, .ref (g 52)), (1, .ref (g k1)), (2, .ref (g k2)), (3, .int x3), (4, .int x4)]) (hF : fX6_share_b79 N r79 k1 k2 x3 x4 S = some o) : W p l e (rmd 3) s m args below meth c H locs 0 0 (gE below args s D (xtys cI cB cZ cQ) (xcell g cI cB cZ cQ) xord g none o.2) (F0 m 79 ls []) := by
  unfold fX6_share_b79 at hF
  refine lv_iload C.1.1 C.1.2.1 dX6_share_79 (lv_at hl 4 rfl) ?_
  refine lv_aload_n C.1.1 C.1.2.1 dX6_share_81 rfl (lv_at hl 1 rfl) ?_
  refine xg_X6_27 C O.1 X (k := k1) hk_k1 dX6_share_82 ?_
  refine lv_icmp_ge (tgt := 156) C.1.1 C.1.2.1 dX6_share_85 (by decide) (fun h_z => ?_) (fun h_z => ?_)
  · rw [if_pos h_z] at hF
    exact bX6_share_156 C O X (lv_sub hl [] rfl) hF
  · rw [if_neg h_z] at hF
    exact bX6_share_88 C O K79 (hk_k1 : xk k1 = 9) (hk_k2 : xk k2 = 7) X (lv_sub hl [0, 1, 2, 3, 4] rfl) hF
noncomputable def fX6_share_h79 (N : Nat) : Nat → Nat → Nat → Int32 → Int32 → gS → Option (Int32 × gS)
  | 0, _, _, _, _, _ => none
  | n + 1, k1, k2, x3, x4, S => fX6_share_b79 N (fX6_share_h79 N n) k1 k2 x3 x4 S
theorem hX6_share_79 {N : Nat} {o : Int32 × gS} (C : gC p s m args meth c cX6_share 6 RX6 none D (xtys cI cB cZ cQ) xord g Am) (O : xsO g cI cB cZ cQ Am aK aV) : ∀ (n : Nat) (k1 : Nat) (k2 : Nat) (x3 : Int32) (x4 : Int32) (hk_k1 : xk k1 = 9) (hk_k2 : xk k2 = 7) (S : gS) (H : Heap) (locs : List Loc) (ls : Array Slot), gX D (xcell g cI cB cZ cQ) xord g S s H locs → lv_has ls 6 [(0, .ref (g 52)), (1, .ref (g k1)), (2, .ref (g k2)), (3, .int x3), (4, .int x4)] → fX6_share_h79 N n k1 k2 x3 x4 S = some o → W p l e (rmd 3) s m args below meth c H locs 0 0 (gE below args s D (xtys cI cB cZ cQ) (xcell g cI cB cZ cQ) xord g none o.2) (F0 m 79 ls []) := by
  intro n
  induction n with
  | zero =>
    intro k1 k2 x3 x4 hk_k1 hk_k2 S H locs ls X hl hF
    exact absurd (show (none : Option (Int32 × gS)) = some o from hF) (by simp)
  | succ n ih =>
    intro k1 k2 x3 x4 hk_k1 hk_k2 S H locs ls X hl hF
    have hF : fX6_share_b79 N (fX6_share_h79 N n) k1 k2 x3 x4 S = some o := hF
    exact bX6_share_79 C O ih hk_k1 hk_k2 X hl hF
noncomputable def fX6_share_b64 (N : Nat) (k1 : Nat) (k2 : Nat) (S : gS) : Option (Int32 × gS) := lt (sU S 52 2 0) fun S1 => (lt (sU S1 52 3 0) fun S2 => (fX6_share_h79 N N k1 k2 0 0 S2))
theorem bX6_share_64 {N : Nat} {k1 : Nat} {k2 : Nat} {S : gS} {H : Heap} {locs : List Loc} {ls : Array Slot} {o : Int32 × gS} (C : gC p s m args meth c cX6_share 6 RX6 none D (xtys cI cB cZ cQ) xord g Am) (O : xsO g cI cB cZ cQ Am aK aV) (hk_k1 : xk k1 = 9) (hk_k2 : xk k2 = 7) (X : gX D (xcell g cI cB cZ cQ) xord g S s H locs) (hl : lv_has ls 6 [(0, .ref (g 52)), (1, .ref (g k1)), (2, .ref (g k2))]) (hF : fX6_share_b64 N k1 k2 S = some o) : W p l e (rmd 3) s m args below meth c H locs 0 0 (gE below args s D (xtys cI cB cZ cQ) (xcell g cI cB cZ cQ) xord g none o.2) (F0 m 64 ls []) := by
  unfold fX6_share_b64 at hF
  refine lv_aload_n C.1.1 C.1.2.1 dX6_share_64 rfl (lv_at hl 0 rfl) ?_
  refine lv_iconst (v := 0) C.1.1 C.1.2.1 dX6_share_65 (by decide) ?_
  obtain ⟨S1, eS1, hF⟩ := lt_some hF
  refine xp_X6_20 C O.1 X (k := 52) rfl eS1 dX6_share_66 (fun H locs X => ?_)
  refine lv_aload_n C.1.1 C.1.2.1 dX6_share_69 rfl (lv_at hl 0 rfl) ?_
  refine lv_iconst (v := 0) C.1.1 C.1.2.1 dX6_share_70 (by decide) ?_
  obtain ⟨S2, eS2, hF⟩ := lt_some hF
  refine xp_X6_24 C O.1 X (k := 52) rfl eS2 dX6_share_71 (fun H locs X => ?_)
  refine lv_iconst (v := 0) C.1.1 C.1.2.1 dX6_share_74 (by decide) ?_
  refine lv_istore_n (lv' := [(3, .int 0), (0, .ref (g 52)), (1, .ref (g k1)), (2, .ref (g k2))]) C.1.1 C.1.2.1 dX6_share_75 rfl hl (by decide) rfl (fun ls hl => ?_)
  refine lv_iconst (v := 0) C.1.1 C.1.2.1 dX6_share_76 (by decide) ?_
  refine lv_istore (lv' := [(4, .int 0), (3, .int 0), (0, .ref (g 52)), (1, .ref (g k1)), (2, .ref (g k2))]) C.1.1 C.1.2.1 dX6_share_77 hl (by decide) rfl (fun ls hl => ?_)
  exact hX6_share_79 C O N _ _ _ _ (hk_k1 : xk k1 = 9) (hk_k2 : xk k2 = 7) _ _ _ _ X (lv_sub hl [2, 3, 4, 1, 0] rfl) hF
noncomputable def fX6_share_b58 (N : Nat) (r7 : Nat → Nat → Int32 → gS → Option (Int32 × gS)) (k1 : Nat) (k2 : Nat) (x3 : Int32) (S : gS) : Option (Int32 × gS) := r7 k1 k2 ((x3 + (-1) : Int32)) S
theorem bX6_share_58 {N : Nat} {r7 : Nat → Nat → Int32 → gS → Option (Int32 × gS)} {k1 : Nat} {k2 : Nat} {x3 : Int32} {S : gS} {H : Heap} {locs : List Loc} {ls : Array Slot} {o : Int32 × gS} (C : gC p s m args meth c cX6_share 6 RX6 none D (xtys cI cB cZ cQ) xord g Am) (O : xsO g cI cB cZ cQ Am aK aV) (K7 : ∀ (k1 : Nat) (k2 : Nat) (x3 : Int32) (hk_k1 : xk k1 = 9) (hk_k2 : xk k2 = 7) (S : gS) (H : Heap) (locs : List Loc) (ls : Array Slot), gX D (xcell g cI cB cZ cQ) xord g S s H locs → lv_has ls 6 [(0, .ref (g 52)), (1, .ref (g k1)), (2, .ref (g k2)), (3, .int x3)] → r7 k1 k2 x3 S = some o → W p l e (rmd 3) s m args below meth c H locs 0 0 (gE below args s D (xtys cI cB cZ cQ) (xcell g cI cB cZ cQ) xord g none o.2) (F0 m 7 ls [])) (hk_k1 : xk k1 = 9) (hk_k2 : xk k2 = 7) (X : gX D (xcell g cI cB cZ cQ) xord g S s H locs) (hl : lv_has ls 6 [(0, .ref (g 52)), (1, .ref (g k1)), (2, .ref (g k2)), (3, .int x3)]) (hF : fX6_share_b58 N r7 k1 k2 x3 S = some o) : W p l e (rmd 3) s m args below meth c H locs 0 0 (gE below args s D (xtys cI cB cZ cQ) (xcell g cI cB cZ cQ) xord g none o.2) (F0 m 58 ls []) := by
  unfold fX6_share_b58 at hF
  refine lv_iinc (v := (x3 + (-1) : Int32)) (lv' := [(3, .int ((x3 + (-1) : Int32))), (0, .ref (g 52)), (1, .ref (g k1)), (2, .ref (g k2))]) C.1.1 C.1.2.1 dX6_share_58 hl (k := 3) rfl rfl (by decide) rfl (fun ls hl => ?_)
  refine lv_goto (tgt := 7) C.1.1 C.1.2.1 dX6_share_61 (by decide) ?_
  exact K7 _ _ _ (hk_k1 : xk k1 = 9) (hk_k2 : xk k2 = 7) _ _ _ _ X (lv_sub hl [1, 2, 3, 0] rfl) hF
noncomputable def fX6_share_b52 (N : Nat) (r7 : Nat → Nat → Int32 → gS → Option (Int32 × gS)) (r14 : Nat → Nat → Int32 → Int32 → gS → Option (Int32 × gS)) (k1 : Nat) (k2 : Nat) (x3 : Int32) (x4 : Int32) (S : gS) : Option (Int32 × gS) := r14 k1 k2 x3 ((x4 + 1 : Int32)) S
theorem bX6_share_52 {N : Nat} {r7 : Nat → Nat → Int32 → gS → Option (Int32 × gS)} {r14 : Nat → Nat → Int32 → Int32 → gS → Option (Int32 × gS)} {k1 : Nat} {k2 : Nat} {x3 : Int32} {x4 : Int32} {S : gS} {H : Heap} {locs : List Loc} {ls : Array Slot} {o : Int32 × gS} (C : gC p s m args meth c cX6_share 6 RX6 none D (xtys cI cB cZ cQ) xord g Am) (O : xsO g cI cB cZ cQ Am aK aV) (K7 : ∀ (k1 : Nat) (k2 : Nat) (x3 : Int32) (hk_k1 : xk k1 = 9) (hk_k2 : xk k2 = 7) (S : gS) (H : Heap) (locs : List Loc) (ls : Array Slot), gX D (xcell g cI cB cZ cQ) xord g S s H locs → lv_has ls 6 [(0, .ref (g 52)), (1, .ref (g k1)), (2, .ref (g k2)), (3, .int x3)] → r7 k1 k2 x3 S = some o → W p l e (rmd 3) s m args below meth c H locs 0 0 (gE below args s D (xtys cI cB cZ cQ) (xcell g cI cB cZ cQ) xord g none o.2) (F0 m 7 ls [])) (K14 : ∀ (k1 : Nat) (k2 : Nat) (x3 : Int32) (x4 : Int32) (hk_k1 : xk k1 = 9) (hk_k2 : xk k2 = 7) (S : gS) (H : Heap) (locs : List Loc) (ls : Array Slot), gX D (xcell g cI cB cZ cQ) xord g S s H locs → lv_has ls 6 [(0, .ref (g 52)), (1, .ref (g k1)), (2, .ref (g k2)), (3, .int x3), (4, .int x4)] → r14 k1 k2 x3 x4 S = some o → W p l e (rmd 3) s m args below meth c H locs 0 0 (gE below args s D (xtys cI cB cZ cQ) (xcell g cI cB cZ cQ) xord g none o.2) (F0 m 14 ls [])) (hk_k1 : xk k1 = 9) (hk_k2 : xk k2 = 7) (X : gX D (xcell g cI cB cZ cQ) xord g S s H locs) (hl : lv_has ls 6 [(0, .ref (g 52)), (1, .ref (g k1)), (2, .ref (g k2)), (3, .int x3), (4, .int x4)]) (hF : fX6_share_b52 N r7 r14 k1 k2 x3 x4 S = some o) : W p l e (rmd 3) s m args below meth c H locs 0 0 (gE below args s D (xtys cI cB cZ cQ) (xcell g cI cB cZ cQ) xord g none o.2) (F0 m 52 ls []) := by
  unfold fX6_share_b52 at hF
  refine lv_iinc (v := (x4 + 1 : Int32)) (lv' := [(4, .int ((x4 + 1 : Int32))), (0, .ref (g 52)), (1, .ref (g k1)), (2, .ref (g k2)), (3, .int x3)]) C.1.1 C.1.2.1 dX6_share_52 hl (k := 4) rfl rfl (by decide) rfl (fun ls hl => ?_)
  refine lv_goto (tgt := 14) C.1.1 C.1.2.1 dX6_share_55 (by decide) ?_
  exact K14 _ _ _ _ (hk_k1 : xk k1 = 9) (hk_k2 : xk k2 = 7) _ _ _ _ X (lv_sub hl [1, 2, 3, 4, 0] rfl) hF
noncomputable def fX6_share_b34 (N : Nat) (r7 : Nat → Nat → Int32 → gS → Option (Int32 × gS)) (r14 : Nat → Nat → Int32 → Int32 → gS → Option (Int32 × gS)) (k1 : Nat) (k2 : Nat) (x3 : Int32) (x4 : Int32) (S : gS) : Option (Int32 × gS) := chk (inb x3 7) (lt (53 + 1 + Int32.toNatClampNeg x3) fun T1 => (bnd (fX6_bestOf N k1 k2 x3 x4 S) fun q1 => (chk (inb x4 256) (lt (sU q1.2 T1 (Int32.toNatClampNeg x4) q1.1) fun S1 => (fX6_share_b52 N r7 r14 k1 k2 x3 x4 S1)))))
theorem bX6_share_34 {N : Nat} {r7 : Nat → Nat → Int32 → gS → Option (Int32 × gS)} {r14 : Nat → Nat → Int32 → Int32 → gS → Option (Int32 × gS)} {k1 : Nat} {k2 : Nat} {x3 : Int32} {x4 : Int32} {S : gS} {H : Heap} {locs : List Loc} {ls : Array Slot} {o : Int32 × gS} (C : gC p s m args meth c cX6_share 6 RX6 none D (xtys cI cB cZ cQ) xord g Am) (O : xsO g cI cB cZ cQ Am aK aV) (K7 : ∀ (k1 : Nat) (k2 : Nat) (x3 : Int32) (hk_k1 : xk k1 = 9) (hk_k2 : xk k2 = 7) (S : gS) (H : Heap) (locs : List Loc) (ls : Array Slot), gX D (xcell g cI cB cZ cQ) xord g S s H locs → lv_has ls 6 [(0, .ref (g 52)), (1, .ref (g k1)), (2, .ref (g k2)), (3, .int x3)] → r7 k1 k2 x3 S = some o → W p l e (rmd 3) s m args below meth c H locs 0 0 (gE below args s D (xtys cI cB cZ cQ) (xcell g cI cB cZ cQ) xord g none o.2) (F0 m 7 ls [])) (K14 : ∀ (k1 : Nat) (k2 : Nat) (x3 : Int32) (x4 : Int32) (hk_k1 : xk k1 = 9) (hk_k2 : xk k2 = 7) (S : gS) (H : Heap) (locs : List Loc) (ls : Array Slot), gX D (xcell g cI cB cZ cQ) xord g S s H locs → lv_has ls 6 [(0, .ref (g 52)), (1, .ref (g k1)), (2, .ref (g k2)), (3, .int x3), (4, .int x4)] → r14 k1 k2 x3 x4 S = some o → W p l e (rmd 3) s m args below meth c H locs 0 0 (gE below args s D (xtys cI cB cZ cQ) (xcell g cI cB cZ cQ) xord g none o.2) (F0 m 14 ls [])) (hk_k1 : xk k1 = 9) (hk_k2 : xk k2 = 7) (X : gX D (xcell g cI cB cZ cQ) xord g S s H locs) (hl : lv_has ls 6 [(0, .ref (g 52)), (1, .ref (g k1)), (2, .ref (g k2)), (3, .int x3), (4, .int x4)]) (hF : fX6_share_b34 N r7 r14 k1 k2 x3 x4 S = some o) : W p l e (rmd 3) s m args below meth c H locs 0 0 (gE below args s D (xtys cI cB cZ cQ) (xcell g cI cB cZ cQ) xord g none o.2) (F0 m 34 ls []) := by
  unfold fX6_share_b34 at hF
  refine lv_aload_n C.1.1 C.1.2.1 dX6_share_34 rfl (lv_at hl 0 rfl) ?_
  refine xg_X6_13 C O.1 X (k := 52) rfl (j := 53) rfl dX6_share_35 ?_
  refine lv_iload_n C.1.1 C.1.2.1 dX6_share_38 rfl (lv_at hl 3 rfl) ?_
  obtain ⟨h_1, hF⟩ := chk_some hF
  obtain ⟨T1, eT1, hF⟩ := lt_some hF
  have hk_T1 : xk T1 = 20 ∧ xN T1 = 256 := xq_53 (inb_vp h_1) eT1
  refine x_rQ C X (k := 53) rfl (n := 7) rfl (inb_vp h_1) eT1.symm dX6_share_39 ?_
  refine lv_iload C.1.1 C.1.2.1 dX6_share_40 (lv_at hl 4 rfl) ?_
  refine lv_aload_n C.1.1 C.1.2.1 dX6_share_42 rfl (lv_at hl 0 rfl) ?_
  refine lv_aload_n C.1.1 C.1.2.1 dX6_share_43 rfl (lv_at hl 1 rfl) ?_
  refine lv_aload_n C.1.1 C.1.2.1 dX6_share_44 rfl (lv_at hl 2 rfl) ?_
  refine lv_iload_n C.1.1 C.1.2.1 dX6_share_45 rfl (lv_at hl 3 rfl) ?_
  refine lv_iload C.1.1 C.1.2.1 dX6_share_46 (lv_at hl 4 rfl) ?_
  obtain ⟨q1, hq1, hF⟩ := bnd_some hF
  refine x_callVi C X (k := 52) xv_X6_41 (rfl : xk 52 = 6) rfl rfl (by decide) (kX6_bestOf O.1 C.2.2.2.2.1 N k1 k2 x3 x4 (hk_k1 : xk k1 = 9) (hk_k2 : xk k2 = 7) S q1 hq1) (Nat.le_of_ble_eq_true rfl) (Nat.le_of_ble_eq_true rfl) (Nat.le_of_ble_eq_true rfl) (Nat.le_of_ble_eq_true rfl) rfl hl.1 rfl (Nat.le_of_ble_eq_true rfl) dX6_share_48 (fun H locs X => ?_)
  obtain ⟨h_2, hF⟩ := chk_some hF
  obtain ⟨S1, eS1, hF⟩ := lt_some hF
  refine x_wI C O.1 X (k := T1) hk_T1.1 (n := 256) hk_T1.2  (inb_vp h_2) rfl eS1 dX6_share_51 (fun H locs X => ?_)
  exact bX6_share_52 C O K7 K14 (hk_k1 : xk k1 = 9) (hk_k2 : xk k2 = 7) X (lv_sub hl [0, 1, 2, 3, 4] rfl) hF
noncomputable def fX6_share_b25 (N : Nat) (r7 : Nat → Nat → Int32 → gS → Option (Int32 × gS)) (r14 : Nat → Nat → Int32 → Int32 → gS → Option (Int32 × gS)) (k1 : Nat) (k2 : Nat) (x3 : Int32) (x4 : Int32) (S : gS) : Option (Int32 × gS) := bnd (fJ6_bitCount_0f7a4 N x4 S) fun q1 => (if x3 < q1.1 then fX6_share_b52 N r7 r14 k1 k2 x3 x4 q1.2 else fX6_share_b34 N r7 r14 k1 k2 x3 x4 q1.2)
theorem bX6_share_25 {N : Nat} {r7 : Nat → Nat → Int32 → gS → Option (Int32 × gS)} {r14 : Nat → Nat → Int32 → Int32 → gS → Option (Int32 × gS)} {k1 : Nat} {k2 : Nat} {x3 : Int32} {x4 : Int32} {S : gS} {H : Heap} {locs : List Loc} {ls : Array Slot} {o : Int32 × gS} (C : gC p s m args meth c cX6_share 6 RX6 none D (xtys cI cB cZ cQ) xord g Am) (O : xsO g cI cB cZ cQ Am aK aV) (K7 : ∀ (k1 : Nat) (k2 : Nat) (x3 : Int32) (hk_k1 : xk k1 = 9) (hk_k2 : xk k2 = 7) (S : gS) (H : Heap) (locs : List Loc) (ls : Array Slot), gX D (xcell g cI cB cZ cQ) xord g S s H locs → lv_has ls 6 [(0, .ref (g 52)), (1, .ref (g k1)), (2, .ref (g k2)), (3, .int x3)] → r7 k1 k2 x3 S = some o → W p l e (rmd 3) s m args below meth c H locs 0 0 (gE below args s D (xtys cI cB cZ cQ) (xcell g cI cB cZ cQ) xord g none o.2) (F0 m 7 ls [])) (K14 : ∀ (k1 : Nat) (k2 : Nat) (x3 : Int32) (x4 : Int32) (hk_k1 : xk k1 = 9) (hk_k2 : xk k2 = 7) (S : gS) (H : Heap) (locs : List Loc) (ls : Array Slot), gX D (xcell g cI cB cZ cQ) xord g S s H locs → lv_has ls 6 [(0, .ref (g 52)), (1, .ref (g k1)), (2, .ref (g k2)), (3, .int x3), (4, .int x4)] → r14 k1 k2 x3 x4 S = some o → W p l e (rmd 3) s m args below meth c H locs 0 0 (gE below args s D (xtys cI cB cZ cQ) (xcell g cI cB cZ cQ) xord g none o.2) (F0 m 14 ls [])) (hk_k1 : xk k1 = 9) (hk_k2 : xk k2 = 7) (X : gX D (xcell g cI cB cZ cQ) xord g S s H locs) (hl : lv_has ls 6 [(0, .ref (g 52)), (1, .ref (g k1)), (2, .ref (g k2)), (3, .int x3), (4, .int x4)]) (hF : fX6_share_b25 N r7 r14 k1 k2 x3 x4 S = some o) : W p l e (rmd 3) s m args below meth c H locs 0 0 (gE below args s D (xtys cI cB cZ cQ) (xcell g cI cB cZ cQ) xord g none o.2) (F0 m 25 ls []) := by
  unfold fX6_share_b25 at hF
  refine lv_iload C.1.1 C.1.2.1 dX6_share_25 (lv_at hl 4 rfl) ?_
  obtain ⟨q1, hq1, hF⟩ := bnd_some hF
  refine g_callOi C X xv_X6_35 (kJ6_bitCount_0f7a4 (xs_sO O) C.2.2.2.2.1 N x4 S q1 hq1) (Nat.le_of_ble_eq_true rfl) (Nat.le_of_ble_eq_true rfl) (Nat.le_of_ble_eq_true rfl) (Nat.le_of_ble_eq_true rfl) rfl hl.1 rfl (Nat.le_of_ble_eq_true rfl) dX6_share_27 (fun H locs X => ?_)
  refine lv_iload_n C.1.1 C.1.2.1 dX6_share_30 rfl (lv_at hl 3 rfl) ?_
  refine lv_icmp_gt (tgt := 52) C.1.1 C.1.2.1 dX6_share_31 (by decide) (fun h_z => ?_) (fun h_z => ?_)
  · rw [if_pos h_z] at hF
    exact bX6_share_52 C O K7 K14 (hk_k1 : xk k1 = 9) (hk_k2 : xk k2 = 7) X (lv_sub hl [0, 1, 2, 3, 4] rfl) hF
  · rw [if_neg h_z] at hF
    exact bX6_share_34 C O K7 K14 (hk_k1 : xk k1 = 9) (hk_k2 : xk k2 = 7) X (lv_sub hl [0, 1, 2, 3, 4] rfl) hF
noncomputable def fX6_share_b14 (N : Nat) (r7 : Nat → Nat → Int32 → gS → Option (Int32 × gS)) (r14 : Nat → Nat → Int32 → Int32 → gS → Option (Int32 × gS)) (k1 : Nat) (k2 : Nat) (x3 : Int32) (x4 : Int32) (S : gS) : Option (Int32 × gS) := if (((1 : Int32) <<< ((S k1 0) &&& 31) : Int32)) ≤ x4 then fX6_share_b58 N r7 k1 k2 x3 S else fX6_share_b25 N r7 r14 k1 k2 x3 x4 S
theorem bX6_share_14 {N : Nat} {r7 : Nat → Nat → Int32 → gS → Option (Int32 × gS)} {r14 : Nat → Nat → Int32 → Int32 → gS → Option (Int32 × gS)} {k1 : Nat} {k2 : Nat} {x3 : Int32} {x4 : Int32} {S : gS} {H : Heap} {locs : List Loc} {ls : Array Slot} {o : Int32 × gS} (C : gC p s m args meth c cX6_share 6 RX6 none D (xtys cI cB cZ cQ) xord g Am) (O : xsO g cI cB cZ cQ Am aK aV) (K7 : ∀ (k1 : Nat) (k2 : Nat) (x3 : Int32) (hk_k1 : xk k1 = 9) (hk_k2 : xk k2 = 7) (S : gS) (H : Heap) (locs : List Loc) (ls : Array Slot), gX D (xcell g cI cB cZ cQ) xord g S s H locs → lv_has ls 6 [(0, .ref (g 52)), (1, .ref (g k1)), (2, .ref (g k2)), (3, .int x3)] → r7 k1 k2 x3 S = some o → W p l e (rmd 3) s m args below meth c H locs 0 0 (gE below args s D (xtys cI cB cZ cQ) (xcell g cI cB cZ cQ) xord g none o.2) (F0 m 7 ls [])) (K14 : ∀ (k1 : Nat) (k2 : Nat) (x3 : Int32) (x4 : Int32) (hk_k1 : xk k1 = 9) (hk_k2 : xk k2 = 7) (S : gS) (H : Heap) (locs : List Loc) (ls : Array Slot), gX D (xcell g cI cB cZ cQ) xord g S s H locs → lv_has ls 6 [(0, .ref (g 52)), (1, .ref (g k1)), (2, .ref (g k2)), (3, .int x3), (4, .int x4)] → r14 k1 k2 x3 x4 S = some o → W p l e (rmd 3) s m args below meth c H locs 0 0 (gE below args s D (xtys cI cB cZ cQ) (xcell g cI cB cZ cQ) xord g none o.2) (F0 m 14 ls [])) (hk_k1 : xk k1 = 9) (hk_k2 : xk k2 = 7) (X : gX D (xcell g cI cB cZ cQ) xord g S s H locs) (hl : lv_has ls 6 [(0, .ref (g 52)), (1, .ref (g k1)), (2, .ref (g k2)), (3, .int x3), (4, .int x4)]) (hF : fX6_share_b14 N r7 r14 k1 k2 x3 x4 S = some o) : W p l e (rmd 3) s m args below meth c H locs 0 0 (gE below args s D (xtys cI cB cZ cQ) (xcell g cI cB cZ cQ) xord g none o.2) (F0 m 14 ls []) := by
  unfold fX6_share_b14 at hF
  refine lv_iload C.1.1 C.1.2.1 dX6_share_14 (lv_at hl 4 rfl) ?_
  refine lv_iconst (v := 1) C.1.1 C.1.2.1 dX6_share_16 (by decide) ?_
  refine lv_aload_n C.1.1 C.1.2.1 dX6_share_17 rfl (lv_at hl 1 rfl) ?_
  refine xg_X6_32 C O.1 X (k := k1) hk_k1 dX6_share_18 ?_
  refine lv_ishl C.1.1 C.1.2.1 dX6_share_21 ?_
  refine lv_icmp_ge (tgt := 58) C.1.1 C.1.2.1 dX6_share_22 (by decide) (fun h_z => ?_) (fun h_z => ?_)
  · rw [if_pos h_z] at hF
    exact bX6_share_58 C O K7 (hk_k1 : xk k1 = 9) (hk_k2 : xk k2 = 7) X (lv_sub hl [0, 1, 2, 3] rfl) hF
  · rw [if_neg h_z] at hF
    exact bX6_share_25 C O K7 K14 (hk_k1 : xk k1 = 9) (hk_k2 : xk k2 = 7) X (lv_sub hl [0, 1, 2, 3, 4] rfl) hF
noncomputable def fX6_share_h14 (N : Nat) (r7 : Nat → Nat → Int32 → gS → Option (Int32 × gS)) : Nat → Nat → Nat → Int32 → Int32 → gS → Option (Int32 × gS)
  | 0, _, _, _, _, _ => none
  | n + 1, k1, k2, x3, x4, S => fX6_share_b14 N r7 (fX6_share_h14 N r7 n) k1 k2 x3 x4 S
theorem hX6_share_14 {N : Nat} {r7 : Nat → Nat → Int32 → gS → Option (Int32 × gS)} {o : Int32 × gS} (C : gC p s m args meth c cX6_share 6 RX6 none D (xtys cI cB cZ cQ) xord g Am) (O : xsO g cI cB cZ cQ Am aK aV) (K7 : ∀ (k1 : Nat) (k2 : Nat) (x3 : Int32) (hk_k1 : xk k1 = 9) (hk_k2 : xk k2 = 7) (S : gS) (H : Heap) (locs : List Loc) (ls : Array Slot), gX D (xcell g cI cB cZ cQ) xord g S s H locs → lv_has ls 6 [(0, .ref (g 52)), (1, .ref (g k1)), (2, .ref (g k2)), (3, .int x3)] → r7 k1 k2 x3 S = some o → W p l e (rmd 3) s m args below meth c H locs 0 0 (gE below args s D (xtys cI cB cZ cQ) (xcell g cI cB cZ cQ) xord g none o.2) (F0 m 7 ls [])) : ∀ (n : Nat) (k1 : Nat) (k2 : Nat) (x3 : Int32) (x4 : Int32) (hk_k1 : xk k1 = 9) (hk_k2 : xk k2 = 7) (S : gS) (H : Heap) (locs : List Loc) (ls : Array Slot), gX D (xcell g cI cB cZ cQ) xord g S s H locs → lv_has ls 6 [(0, .ref (g 52)), (1, .ref (g k1)), (2, .ref (g k2)), (3, .int x3), (4, .int x4)] → fX6_share_h14 N r7 n k1 k2 x3 x4 S = some o → W p l e (rmd 3) s m args below meth c H locs 0 0 (gE below args s D (xtys cI cB cZ cQ) (xcell g cI cB cZ cQ) xord g none o.2) (F0 m 14 ls []) := by
  intro n
  induction n with
  | zero =>
    intro k1 k2 x3 x4 hk_k1 hk_k2 S H locs ls X hl hF
    exact absurd (show (none : Option (Int32 × gS)) = some o from hF) (by simp)
  | succ n ih =>
    intro k1 k2 x3 x4 hk_k1 hk_k2 S H locs ls X hl hF
    have hF : fX6_share_b14 N r7 (fX6_share_h14 N r7 n) k1 k2 x3 x4 S = some o := hF
    exact bX6_share_14 C O K7 ih hk_k1 hk_k2 X hl hF
noncomputable def fX6_share_b11 (N : Nat) (r7 : Nat → Nat → Int32 → gS → Option (Int32 × gS)) (k1 : Nat) (k2 : Nat) (x3 : Int32) (S : gS) : Option (Int32 × gS) := fX6_share_h14 N r7 N k1 k2 x3 0 S
theorem bX6_share_11 {N : Nat} {r7 : Nat → Nat → Int32 → gS → Option (Int32 × gS)} {k1 : Nat} {k2 : Nat} {x3 : Int32} {S : gS} {H : Heap} {locs : List Loc} {ls : Array Slot} {o : Int32 × gS} (C : gC p s m args meth c cX6_share 6 RX6 none D (xtys cI cB cZ cQ) xord g Am) (O : xsO g cI cB cZ cQ Am aK aV) (K7 : ∀ (k1 : Nat) (k2 : Nat) (x3 : Int32) (hk_k1 : xk k1 = 9) (hk_k2 : xk k2 = 7) (S : gS) (H : Heap) (locs : List Loc) (ls : Array Slot), gX D (xcell g cI cB cZ cQ) xord g S s H locs → lv_has ls 6 [(0, .ref (g 52)), (1, .ref (g k1)), (2, .ref (g k2)), (3, .int x3)] → r7 k1 k2 x3 S = some o → W p l e (rmd 3) s m args below meth c H locs 0 0 (gE below args s D (xtys cI cB cZ cQ) (xcell g cI cB cZ cQ) xord g none o.2) (F0 m 7 ls [])) (hk_k1 : xk k1 = 9) (hk_k2 : xk k2 = 7) (X : gX D (xcell g cI cB cZ cQ) xord g S s H locs) (hl : lv_has ls 6 [(0, .ref (g 52)), (1, .ref (g k1)), (2, .ref (g k2)), (3, .int x3)]) (hF : fX6_share_b11 N r7 k1 k2 x3 S = some o) : W p l e (rmd 3) s m args below meth c H locs 0 0 (gE below args s D (xtys cI cB cZ cQ) (xcell g cI cB cZ cQ) xord g none o.2) (F0 m 11 ls []) := by
  unfold fX6_share_b11 at hF
  refine lv_iconst (v := 0) C.1.1 C.1.2.1 dX6_share_11 (by decide) ?_
  refine lv_istore (lv' := [(4, .int 0), (0, .ref (g 52)), (1, .ref (g k1)), (2, .ref (g k2)), (3, .int x3)]) C.1.1 C.1.2.1 dX6_share_12 hl (by decide) rfl (fun ls hl => ?_)
  exact hX6_share_14 C O K7 N _ _ _ _ (hk_k1 : xk k1 = 9) (hk_k2 : xk k2 = 7) _ _ _ _ X (lv_sub hl [1, 2, 3, 4, 0] rfl) hF
noncomputable def fX6_share_b7 (N : Nat) (r7 : Nat → Nat → Int32 → gS → Option (Int32 × gS)) (k1 : Nat) (k2 : Nat) (x3 : Int32) (S : gS) : Option (Int32 × gS) := if x3 < 0 then fX6_share_b64 N k1 k2 S else fX6_share_b11 N r7 k1 k2 x3 S
theorem bX6_share_7 {N : Nat} {r7 : Nat → Nat → Int32 → gS → Option (Int32 × gS)} {k1 : Nat} {k2 : Nat} {x3 : Int32} {S : gS} {H : Heap} {locs : List Loc} {ls : Array Slot} {o : Int32 × gS} (C : gC p s m args meth c cX6_share 6 RX6 none D (xtys cI cB cZ cQ) xord g Am) (O : xsO g cI cB cZ cQ Am aK aV) (K7 : ∀ (k1 : Nat) (k2 : Nat) (x3 : Int32) (hk_k1 : xk k1 = 9) (hk_k2 : xk k2 = 7) (S : gS) (H : Heap) (locs : List Loc) (ls : Array Slot), gX D (xcell g cI cB cZ cQ) xord g S s H locs → lv_has ls 6 [(0, .ref (g 52)), (1, .ref (g k1)), (2, .ref (g k2)), (3, .int x3)] → r7 k1 k2 x3 S = some o → W p l e (rmd 3) s m args below meth c H locs 0 0 (gE below args s D (xtys cI cB cZ cQ) (xcell g cI cB cZ cQ) xord g none o.2) (F0 m 7 ls [])) (hk_k1 : xk k1 = 9) (hk_k2 : xk k2 = 7) (X : gX D (xcell g cI cB cZ cQ) xord g S s H locs) (hl : lv_has ls 6 [(0, .ref (g 52)), (1, .ref (g k1)), (2, .ref (g k2)), (3, .int x3)]) (hF : fX6_share_b7 N r7 k1 k2 x3 S = some o) : W p l e (rmd 3) s m args below meth c H locs 0 0 (gE below args s D (xtys cI cB cZ cQ) (xcell g cI cB cZ cQ) xord g none o.2) (F0 m 7 ls []) := by
  unfold fX6_share_b7 at hF
  refine lv_iload_n C.1.1 C.1.2.1 dX6_share_7 rfl (lv_at hl 3 rfl) ?_
  refine lv_if_lt (tgt := 64) C.1.1 C.1.2.1 dX6_share_8 (by decide) (fun h_z => ?_) (fun h_z => ?_)
  · rw [if_pos h_z] at hF
    exact bX6_share_64 C O (hk_k1 : xk k1 = 9) (hk_k2 : xk k2 = 7) X (lv_sub hl [0, 1, 2] rfl) hF
  · rw [if_neg h_z] at hF
    exact bX6_share_11 C O K7 (hk_k1 : xk k1 = 9) (hk_k2 : xk k2 = 7) X (lv_sub hl [0, 1, 2, 3] rfl) hF
noncomputable def fX6_share_h7 (N : Nat) : Nat → Nat → Nat → Int32 → gS → Option (Int32 × gS)
  | 0, _, _, _, _ => none
  | n + 1, k1, k2, x3, S => fX6_share_b7 N (fX6_share_h7 N n) k1 k2 x3 S
theorem hX6_share_7 {N : Nat} {o : Int32 × gS} (C : gC p s m args meth c cX6_share 6 RX6 none D (xtys cI cB cZ cQ) xord g Am) (O : xsO g cI cB cZ cQ Am aK aV) : ∀ (n : Nat) (k1 : Nat) (k2 : Nat) (x3 : Int32) (hk_k1 : xk k1 = 9) (hk_k2 : xk k2 = 7) (S : gS) (H : Heap) (locs : List Loc) (ls : Array Slot), gX D (xcell g cI cB cZ cQ) xord g S s H locs → lv_has ls 6 [(0, .ref (g 52)), (1, .ref (g k1)), (2, .ref (g k2)), (3, .int x3)] → fX6_share_h7 N n k1 k2 x3 S = some o → W p l e (rmd 3) s m args below meth c H locs 0 0 (gE below args s D (xtys cI cB cZ cQ) (xcell g cI cB cZ cQ) xord g none o.2) (F0 m 7 ls []) := by
  intro n
  induction n with
  | zero =>
    intro k1 k2 x3 hk_k1 hk_k2 S H locs ls X hl hF
    exact absurd (show (none : Option (Int32 × gS)) = some o from hF) (by simp)
  | succ n ih =>
    intro k1 k2 x3 hk_k1 hk_k2 S H locs ls X hl hF
    have hF : fX6_share_b7 N (fX6_share_h7 N n) k1 k2 x3 S = some o := hF
    exact bX6_share_7 C O ih hk_k1 hk_k2 X hl hF
noncomputable def fX6_share_b0 (N : Nat) (k1 : Nat) (k2 : Nat) (S : gS) : Option (Int32 × gS) := fX6_share_h7 N N k1 k2 (((S k1 5) - 1 : Int32)) S
theorem bX6_share_0 {N : Nat} {k1 : Nat} {k2 : Nat} {S : gS} {H : Heap} {locs : List Loc} {ls : Array Slot} {o : Int32 × gS} (C : gC p s m args meth c cX6_share 6 RX6 none D (xtys cI cB cZ cQ) xord g Am) (O : xsO g cI cB cZ cQ Am aK aV) (hk_k1 : xk k1 = 9) (hk_k2 : xk k2 = 7) (X : gX D (xcell g cI cB cZ cQ) xord g S s H locs) (hl : lv_has ls 6 [(0, .ref (g 52)), (1, .ref (g k1)), (2, .ref (g k2))]) (hF : fX6_share_b0 N k1 k2 S = some o) : W p l e (rmd 3) s m args below meth c H locs 0 0 (gE below args s D (xtys cI cB cZ cQ) (xcell g cI cB cZ cQ) xord g none o.2) (F0 m 0 ls []) := by
  unfold fX6_share_b0 at hF
  refine lv_aload_n C.1.1 C.1.2.1 dX6_share_0 rfl (lv_at hl 1 rfl) ?_
  refine xg_X6_27 C O.1 X (k := k1) hk_k1 dX6_share_1 ?_
  refine lv_iconst (v := 1) C.1.1 C.1.2.1 dX6_share_4 (by decide) ?_
  refine lv_isub C.1.1 C.1.2.1 dX6_share_5 ?_
  refine lv_istore_n (lv' := [(3, .int (((S k1 5) - 1 : Int32))), (0, .ref (g 52)), (1, .ref (g k1)), (2, .ref (g k2))]) C.1.1 C.1.2.1 dX6_share_6 rfl hl (by decide) rfl (fun ls hl => ?_)
  exact hX6_share_7 C O N _ _ _ (hk_k1 : xk k1 = 9) (hk_k2 : xk k2 = 7) _ _ _ _ X (lv_sub hl [1, 2, 3, 0] rfl) hF
noncomputable def fX6_share (N : Nat) (k1 : Nat) (k2 : Nat) (S : gS) : Option (Int32 × gS) := fX6_share_b0 N k1 k2 S
theorem kX6_share {l : Launch} {D : va_G} {g : Nat → Nat} {cI cB cZ cQ : ClassId} {Am : (Nat → Prop) → State → Heap → Prop} {aK aV : Nat → Nat} (O : xsO g cI cB cZ cQ Am aK aV) (P : gAm Am) (N : Nat) (k1 : Nat) (k2 : Nat) (hk_k1 : xk k1 = 9) (hk_k2 : xk k2 = 7) (S : gS) (o : Int32 × gS) (hF : fX6_share N k1 k2 S = some o) : gM l yX6_share cX6_share 6 none 3 D (xtys cI cB cZ cQ) (xcell g cI cB cZ cQ) xord g Am [.ref (g 52), .ref (g k1), .ref (g k2)] S none o.2 :=
  gM_of O.1.1 P (by decide) (Nat.le_of_ble_eq_true rfl) (fun p e s m args below meth c ls C X hl => bX6_share_0 C O hk_k1 hk_k2 X (lv_sub hl [0, 1, 2] rfl) hF)
-- X8.isAtWord
noncomputable def fX8_isAtWord_b62 (N : Nat) (S : gS) : Option (Int32 × gS) := some (1, S)
theorem bX8_isAtWord_62 {N : Nat} {S : gS} {H : Heap} {locs : List Loc} {ls : Array Slot} {o : Int32 × gS} (C : gC p s m args meth c cX8_isAtWord 3 RX8 ((some .boolean)) D (xtys cI cB cZ cQ) xord g Am) (O : xsO g cI cB cZ cQ Am aK aV) (X : gX D (xcell g cI cB cZ cQ) xord g S s H locs) (hl : lv_has ls 3 []) (hF : fX8_isAtWord_b62 N S = some o) : W p l e (rmd 4) s m args below meth c H locs 0 0 (gE below args s D (xtys cI cB cZ cQ) (xcell g cI cB cZ cQ) xord g (some (.int o.1)) o.2) (F0 m 62 ls []) := by
  unfold fX8_isAtWord_b62 at hF
  refine lv_iconst (v := 1) C.1.1 C.1.2.1 dX8_isAtWord_62 (by decide) ?_
  cases hF
  exact g_zret (x := 1) C X (by decide) dX8_isAtWord_63
noncomputable def fX8_isAtWord_b56 (N : Nat) (r28 : Nat → Int32 → gS → Option (Int32 × gS)) (k1 : Nat) (x2 : Int32) (S : gS) : Option (Int32 × gS) := r28 k1 ((x2 + 1 : Int32)) S
theorem bX8_isAtWord_56 {N : Nat} {r28 : Nat → Int32 → gS → Option (Int32 × gS)} {k1 : Nat} {x2 : Int32} {S : gS} {H : Heap} {locs : List Loc} {ls : Array Slot} {o : Int32 × gS} (C : gC p s m args meth c cX8_isAtWord 3 RX8 ((some .boolean)) D (xtys cI cB cZ cQ) xord g Am) (O : xsO g cI cB cZ cQ Am aK aV) (K28 : ∀ (k1 : Nat) (x2 : Int32) (hk_k1 : sI k1 = true) (S : gS) (H : Heap) (locs : List Loc) (ls : Array Slot), gX D (xcell g cI cB cZ cQ) xord g S s H locs → lv_has ls 3 [(0, .ref (g 2)), (1, .ref (aK k1)), (2, .int x2)] → r28 k1 x2 S = some o → W p l e (rmd 4) s m args below meth c H locs 0 0 (gE below args s D (xtys cI cB cZ cQ) (xcell g cI cB cZ cQ) xord g (some (.int o.1)) o.2) (F0 m 28 ls [])) (hk_k1 : sI k1 = true) (X : gX D (xcell g cI cB cZ cQ) xord g S s H locs) (hl : lv_has ls 3 [(0, .ref (g 2)), (1, .ref (aK k1)), (2, .int x2)]) (hF : fX8_isAtWord_b56 N r28 k1 x2 S = some o) : W p l e (rmd 4) s m args below meth c H locs 0 0 (gE below args s D (xtys cI cB cZ cQ) (xcell g cI cB cZ cQ) xord g (some (.int o.1)) o.2) (F0 m 56 ls []) := by
  unfold fX8_isAtWord_b56 at hF
  refine lv_iinc (v := (x2 + 1 : Int32)) (lv' := [(2, .int ((x2 + 1 : Int32))), (0, .ref (g 2)), (1, .ref (aK k1))]) C.1.1 C.1.2.1 dX8_isAtWord_56 hl (k := 2) rfl rfl (by decide) rfl (fun ls hl => ?_)
  refine lv_goto (tgt := 28) C.1.1 C.1.2.1 dX8_isAtWord_59 (by decide) ?_
  exact K28 _ _ hk_k1 _ _ _ _ X (lv_sub hl [1, 2, 0] rfl) hF
noncomputable def fX8_isAtWord_b54 (N : Nat) (S : gS) : Option (Int32 × gS) := some (0, S)
theorem bX8_isAtWord_54 {N : Nat} {S : gS} {H : Heap} {locs : List Loc} {ls : Array Slot} {o : Int32 × gS} (C : gC p s m args meth c cX8_isAtWord 3 RX8 ((some .boolean)) D (xtys cI cB cZ cQ) xord g Am) (O : xsO g cI cB cZ cQ Am aK aV) (X : gX D (xcell g cI cB cZ cQ) xord g S s H locs) (hl : lv_has ls 3 []) (hF : fX8_isAtWord_b54 N S = some o) : W p l e (rmd 4) s m args below meth c H locs 0 0 (gE below args s D (xtys cI cB cZ cQ) (xcell g cI cB cZ cQ) xord g (some (.int o.1)) o.2) (F0 m 54 ls []) := by
  unfold fX8_isAtWord_b54 at hF
  refine lv_iconst (v := 0) C.1.1 C.1.2.1 dX8_isAtWord_54 (by decide) ?_
  cases hF
  exact g_zret (x := 0) C X (by decide) dX8_isAtWord_55
noncomputable def fX8_isAtWord_b36 (N : Nat) (r28 : Nat → Int32 → gS → Option (Int32 × gS)) (k1 : Nat) (x2 : Int32) (S : gS) : Option (Int32 × gS) := bnd (fX8_at N (((S 2 5) + x2 : Int32)) S) fun q1 => (bnd (fJ0_charAt_5068e N k1 x2 q1.2) fun q2 => (if q1.1 = q2.1 then fX8_isAtWord_b56 N r28 k1 x2 q2.2 else fX8_isAtWord_b54 N q2.2))
theorem bX8_isAtWord_36 {N : Nat} {r28 : Nat → Int32 → gS → Option (Int32 × gS)} {k1 : Nat} {x2 : Int32} {S : gS} {H : Heap} {locs : List Loc} {ls : Array Slot} {o : Int32 × gS} (C : gC p s m args meth c cX8_isAtWord 3 RX8 ((some .boolean)) D (xtys cI cB cZ cQ) xord g Am) (O : xsO g cI cB cZ cQ Am aK aV) (K28 : ∀ (k1 : Nat) (x2 : Int32) (hk_k1 : sI k1 = true) (S : gS) (H : Heap) (locs : List Loc) (ls : Array Slot), gX D (xcell g cI cB cZ cQ) xord g S s H locs → lv_has ls 3 [(0, .ref (g 2)), (1, .ref (aK k1)), (2, .int x2)] → r28 k1 x2 S = some o → W p l e (rmd 4) s m args below meth c H locs 0 0 (gE below args s D (xtys cI cB cZ cQ) (xcell g cI cB cZ cQ) xord g (some (.int o.1)) o.2) (F0 m 28 ls [])) (hk_k1 : sI k1 = true) (X : gX D (xcell g cI cB cZ cQ) xord g S s H locs) (hl : lv_has ls 3 [(0, .ref (g 2)), (1, .ref (aK k1)), (2, .int x2)]) (hF : fX8_isAtWord_b36 N r28 k1 x2 S = some o) : W p l e (rmd 4) s m args below meth c H locs 0 0 (gE below args s D (xtys cI cB cZ cQ) (xcell g cI cB cZ cQ) xord g (some (.int o.1)) o.2) (F0 m 36 ls []) := by
  unfold fX8_isAtWord_b36 at hF
  refine lv_aload_n C.1.1 C.1.2.1 dX8_isAtWord_36 rfl (lv_at hl 0 rfl) ?_
  refine lv_aload_n C.1.1 C.1.2.1 dX8_isAtWord_37 rfl (lv_at hl 0 rfl) ?_
  refine xg_X8_28 C O.1 X (k := 2) rfl dX8_isAtWord_38 ?_
  refine lv_iload_n C.1.1 C.1.2.1 dX8_isAtWord_41 rfl (lv_at hl 2 rfl) ?_
  refine lv_iadd C.1.1 C.1.2.1 dX8_isAtWord_42 ?_
  obtain ⟨q1, hq1, hF⟩ := bnd_some hF
  refine x_callVi C X (k := 2) xv_X8_43 (rfl : xk 2 = 8) rfl rfl (by decide) (kX8_at O.1 C.2.2.2.2.1 N (((S 2 5) + x2 : Int32)) S q1 hq1) (Nat.le_of_ble_eq_true rfl) (Nat.le_of_ble_eq_true rfl) (Nat.le_of_ble_eq_true rfl) (Nat.le_of_ble_eq_true rfl) rfl hl.1 rfl (Nat.le_of_ble_eq_true rfl) dX8_isAtWord_43 (fun H locs X => ?_)
  refine lv_aload_n C.1.1 C.1.2.1 dX8_isAtWord_46 rfl (lv_at hl 1 rfl) ?_
  refine lv_iload_n C.1.1 C.1.2.1 dX8_isAtWord_47 rfl (lv_at hl 2 rfl) ?_
  obtain ⟨q2, hq2, hF⟩ := bnd_some hF
  refine s_callV C (xs_sO O) X xv_X8_55 rfl hk_k1 (kJ0_charAt_5068e (xs_sO O) C.2.2.2.2.1 N k1 x2 hk_k1 q1.2 q2 hq2) (Nat.le_of_ble_eq_true rfl) (Nat.le_of_ble_eq_true rfl) (Nat.le_of_ble_eq_true rfl) (Nat.le_of_ble_eq_true rfl) rfl hl.1 rfl (Nat.le_of_ble_eq_true rfl) dX8_isAtWord_48 (fun H locs X => ?_)
  refine lv_icmp_eq (tgt := 56) C.1.1 C.1.2.1 dX8_isAtWord_51 (by decide) (fun h_z => ?_) (fun h_z => ?_)
  · rw [if_pos h_z] at hF
    exact bX8_isAtWord_56 C O K28 hk_k1 X (lv_sub hl [0, 1, 2] rfl) hF
  · rw [if_neg h_z] at hF
    exact bX8_isAtWord_54 C O X (lv_sub hl [] rfl) hF
noncomputable def fX8_isAtWord_b28 (N : Nat) (r28 : Nat → Int32 → gS → Option (Int32 × gS)) (k1 : Nat) (x2 : Int32) (S : gS) : Option (Int32 × gS) := bnd (fJ0_length_8abf5 N k1 S) fun q1 => (if q1.1 ≤ x2 then fX8_isAtWord_b62 N q1.2 else fX8_isAtWord_b36 N r28 k1 x2 q1.2)
theorem bX8_isAtWord_28 {N : Nat} {r28 : Nat → Int32 → gS → Option (Int32 × gS)} {k1 : Nat} {x2 : Int32} {S : gS} {H : Heap} {locs : List Loc} {ls : Array Slot} {o : Int32 × gS} (C : gC p s m args meth c cX8_isAtWord 3 RX8 ((some .boolean)) D (xtys cI cB cZ cQ) xord g Am) (O : xsO g cI cB cZ cQ Am aK aV) (K28 : ∀ (k1 : Nat) (x2 : Int32) (hk_k1 : sI k1 = true) (S : gS) (H : Heap) (locs : List Loc) (ls : Array Slot), gX D (xcell g cI cB cZ cQ) xord g S s H locs → lv_has ls 3 [(0, .ref (g 2)), (1, .ref (aK k1)), (2, .int x2)] → r28 k1 x2 S = some o → W p l e (rmd 4) s m args below meth c H locs 0 0 (gE below args s D (xtys cI cB cZ cQ) (xcell g cI cB cZ cQ) xord g (some (.int o.1)) o.2) (F0 m 28 ls [])) (hk_k1 : sI k1 = true) (X : gX D (xcell g cI cB cZ cQ) xord g S s H locs) (hl : lv_has ls 3 [(0, .ref (g 2)), (1, .ref (aK k1)), (2, .int x2)]) (hF : fX8_isAtWord_b28 N r28 k1 x2 S = some o) : W p l e (rmd 4) s m args below meth c H locs 0 0 (gE below args s D (xtys cI cB cZ cQ) (xcell g cI cB cZ cQ) xord g (some (.int o.1)) o.2) (F0 m 28 ls []) := by
  unfold fX8_isAtWord_b28 at hF
  refine lv_iload_n C.1.1 C.1.2.1 dX8_isAtWord_28 rfl (lv_at hl 2 rfl) ?_
  refine lv_aload_n C.1.1 C.1.2.1 dX8_isAtWord_29 rfl (lv_at hl 1 rfl) ?_
  obtain ⟨q1, hq1, hF⟩ := bnd_some hF
  refine s_callV C (xs_sO O) X xv_X8_50 rfl hk_k1 (kJ0_length_8abf5 (xs_sO O) C.2.2.2.2.1 N k1 hk_k1 S q1 hq1) (Nat.le_of_ble_eq_true rfl) (Nat.le_of_ble_eq_true rfl) (Nat.le_of_ble_eq_true rfl) (Nat.le_of_ble_eq_true rfl) rfl hl.1 rfl (Nat.le_of_ble_eq_true rfl) dX8_isAtWord_30 (fun H locs X => ?_)
  refine lv_icmp_ge (tgt := 62) C.1.1 C.1.2.1 dX8_isAtWord_33 (by decide) (fun h_z => ?_) (fun h_z => ?_)
  · rw [if_pos h_z] at hF
    exact bX8_isAtWord_62 C O X (lv_sub hl [] rfl) hF
  · rw [if_neg h_z] at hF
    exact bX8_isAtWord_36 C O K28 hk_k1 X (lv_sub hl [0, 1, 2] rfl) hF
noncomputable def fX8_isAtWord_h28 (N : Nat) : Nat → Nat → Int32 → gS → Option (Int32 × gS)
  | 0, _, _, _ => none
  | n + 1, k1, x2, S => fX8_isAtWord_b28 N (fX8_isAtWord_h28 N n) k1 x2 S
theorem hX8_isAtWord_28 {N : Nat} {o : Int32 × gS} (C : gC p s m args meth c cX8_isAtWord 3 RX8 ((some .boolean)) D (xtys cI cB cZ cQ) xord g Am) (O : xsO g cI cB cZ cQ Am aK aV) : ∀ (n : Nat) (k1 : Nat) (x2 : Int32) (hk_k1 : sI k1 = true) (S : gS) (H : Heap) (locs : List Loc) (ls : Array Slot), gX D (xcell g cI cB cZ cQ) xord g S s H locs → lv_has ls 3 [(0, .ref (g 2)), (1, .ref (aK k1)), (2, .int x2)] → fX8_isAtWord_h28 N n k1 x2 S = some o → W p l e (rmd 4) s m args below meth c H locs 0 0 (gE below args s D (xtys cI cB cZ cQ) (xcell g cI cB cZ cQ) xord g (some (.int o.1)) o.2) (F0 m 28 ls []) := by
  intro n
  induction n with
  | zero =>
    intro k1 x2 hk_k1 S H locs ls X hl hF
    exact absurd (show (none : Option (Int32 × gS)) = some o from hF) (by simp)
  | succ n ih =>
    intro k1 x2 hk_k1 S H locs ls X hl hF
    have hF : fX8_isAtWord_b28 N (fX8_isAtWord_h28 N n) k1 x2 S = some o := hF
    exact bX8_isAtWord_28 C O ih hk_k1 X hl hF
noncomputable def fX8_isAtWord_b26 (N : Nat) (k1 : Nat) (S : gS) : Option (Int32 × gS) := fX8_isAtWord_h28 N N k1 0 S
theorem bX8_isAtWord_26 {N : Nat} {k1 : Nat} {S : gS} {H : Heap} {locs : List Loc} {ls : Array Slot} {o : Int32 × gS} (C : gC p s m args meth c cX8_isAtWord 3 RX8 ((some .boolean)) D (xtys cI cB cZ cQ) xord g Am) (O : xsO g cI cB cZ cQ Am aK aV) (hk_k1 : sI k1 = true) (X : gX D (xcell g cI cB cZ cQ) xord g S s H locs) (hl : lv_has ls 3 [(0, .ref (g 2)), (1, .ref (aK k1))]) (hF : fX8_isAtWord_b26 N k1 S = some o) : W p l e (rmd 4) s m args below meth c H locs 0 0 (gE below args s D (xtys cI cB cZ cQ) (xcell g cI cB cZ cQ) xord g (some (.int o.1)) o.2) (F0 m 26 ls []) := by
  unfold fX8_isAtWord_b26 at hF
  refine lv_iconst (v := 0) C.1.1 C.1.2.1 dX8_isAtWord_26 (by decide) ?_
  refine lv_istore_n (lv' := [(2, .int 0), (0, .ref (g 2)), (1, .ref (aK k1))]) C.1.1 C.1.2.1 dX8_isAtWord_27 rfl hl (by decide) rfl (fun ls hl => ?_)
  exact hX8_isAtWord_28 C O N _ _ hk_k1 _ _ _ _ X (lv_sub hl [1, 2, 0] rfl) hF
noncomputable def fX8_isAtWord_b24 (N : Nat) (S : gS) : Option (Int32 × gS) := some (0, S)
theorem bX8_isAtWord_24 {N : Nat} {S : gS} {H : Heap} {locs : List Loc} {ls : Array Slot} {o : Int32 × gS} (C : gC p s m args meth c cX8_isAtWord 3 RX8 ((some .boolean)) D (xtys cI cB cZ cQ) xord g Am) (O : xsO g cI cB cZ cQ Am aK aV) (X : gX D (xcell g cI cB cZ cQ) xord g S s H locs) (hl : lv_has ls 3 []) (hF : fX8_isAtWord_b24 N S = some o) : W p l e (rmd 4) s m args below meth c H locs 0 0 (gE below args s D (xtys cI cB cZ cQ) (xcell g cI cB cZ cQ) xord g (some (.int o.1)) o.2) (F0 m 24 ls []) := by
  unfold fX8_isAtWord_b24 at hF
  refine lv_iconst (v := 0) C.1.1 C.1.2.1 dX8_isAtWord_24 (by decide) ?_
  cases hF
  exact g_zret (x := 0) C X (by decide) dX8_isAtWord_25
noncomputable def fX8_isAtWord_b8 (N : Nat) (k1 : Nat) (S : gS) : Option (Int32 × gS) := bnd (fJ0_length_8abf5 N k1 S) fun q1 => (if (((S 2 3) - (S 2 5) : Int32)) = q1.1 then fX8_isAtWord_b26 N k1 q1.2 else fX8_isAtWord_b24 N q1.2)
theorem bX8_isAtWord_8 {N : Nat} {k1 : Nat} {S : gS} {H : Heap} {locs : List Loc} {ls : Array Slot} {o : Int32 × gS} (C : gC p s m args meth c cX8_isAtWord 3 RX8 ((some .boolean)) D (xtys cI cB cZ cQ) xord g Am) (O : xsO g cI cB cZ cQ Am aK aV) (hk_k1 : sI k1 = true) (X : gX D (xcell g cI cB cZ cQ) xord g S s H locs) (hl : lv_has ls 3 [(0, .ref (g 2)), (1, .ref (aK k1))]) (hF : fX8_isAtWord_b8 N k1 S = some o) : W p l e (rmd 4) s m args below meth c H locs 0 0 (gE below args s D (xtys cI cB cZ cQ) (xcell g cI cB cZ cQ) xord g (some (.int o.1)) o.2) (F0 m 8 ls []) := by
  unfold fX8_isAtWord_b8 at hF
  refine lv_aload_n C.1.1 C.1.2.1 dX8_isAtWord_8 rfl (lv_at hl 0 rfl) ?_
  refine xg_X8_22 C O.1 X (k := 2) rfl dX8_isAtWord_9 ?_
  refine lv_aload_n C.1.1 C.1.2.1 dX8_isAtWord_12 rfl (lv_at hl 0 rfl) ?_
  refine xg_X8_28 C O.1 X (k := 2) rfl dX8_isAtWord_13 ?_
  refine lv_isub C.1.1 C.1.2.1 dX8_isAtWord_16 ?_
  refine lv_aload_n C.1.1 C.1.2.1 dX8_isAtWord_17 rfl (lv_at hl 1 rfl) ?_
  obtain ⟨q1, hq1, hF⟩ := bnd_some hF
  refine s_callV C (xs_sO O) X xv_X8_50 rfl hk_k1 (kJ0_length_8abf5 (xs_sO O) C.2.2.2.2.1 N k1 hk_k1 S q1 hq1) (Nat.le_of_ble_eq_true rfl) (Nat.le_of_ble_eq_true rfl) (Nat.le_of_ble_eq_true rfl) (Nat.le_of_ble_eq_true rfl) rfl hl.1 rfl (Nat.le_of_ble_eq_true rfl) dX8_isAtWord_18 (fun H locs X => ?_)
  refine lv_icmp_eq (tgt := 26) C.1.1 C.1.2.1 dX8_isAtWord_21 (by decide) (fun h_z => ?_) (fun h_z => ?_)
  · rw [if_pos h_z] at hF
    exact bX8_isAtWord_26 C O hk_k1 X (lv_sub hl [0, 1] rfl) hF
  · rw [if_neg h_z] at hF
    exact bX8_isAtWord_24 C O X (lv_sub hl [] rfl) hF
noncomputable def fX8_isAtWord_b0 (N : Nat) (k1 : Nat) (S : gS) : Option (Int32 × gS) := if (S 2 4) = 1 then fX8_isAtWord_b8 N k1 S else fX8_isAtWord_b24 N S
theorem bX8_isAtWord_0 {N : Nat} {k1 : Nat} {S : gS} {H : Heap} {locs : List Loc} {ls : Array Slot} {o : Int32 × gS} (C : gC p s m args meth c cX8_isAtWord 3 RX8 ((some .boolean)) D (xtys cI cB cZ cQ) xord g Am) (O : xsO g cI cB cZ cQ Am aK aV) (hk_k1 : sI k1 = true) (X : gX D (xcell g cI cB cZ cQ) xord g S s H locs) (hl : lv_has ls 3 [(0, .ref (g 2)), (1, .ref (aK k1))]) (hF : fX8_isAtWord_b0 N k1 S = some o) : W p l e (rmd 4) s m args below meth c H locs 0 0 (gE below args s D (xtys cI cB cZ cQ) (xcell g cI cB cZ cQ) xord g (some (.int o.1)) o.2) (F0 m 0 ls []) := by
  unfold fX8_isAtWord_b0 at hF
  refine lv_aload_n C.1.1 C.1.2.1 dX8_isAtWord_0 rfl (lv_at hl 0 rfl) ?_
  refine xg_X8_25 C O.1 X (k := 2) rfl dX8_isAtWord_1 ?_
  refine lv_iconst (v := 1) C.1.1 C.1.2.1 dX8_isAtWord_4 (by decide) ?_
  refine lv_icmp_ne (tgt := 24) C.1.1 C.1.2.1 dX8_isAtWord_5 (by decide) (fun h_z => ?_) (fun h_z => ?_)
  · rw [if_neg h_z] at hF
    exact bX8_isAtWord_24 C O X (lv_sub hl [] rfl) hF
  · rw [if_pos h_z] at hF
    exact bX8_isAtWord_8 C O hk_k1 X (lv_sub hl [0, 1] rfl) hF
noncomputable def fX8_isAtWord (N : Nat) (k1 : Nat) (S : gS) : Option (Int32 × gS) := fX8_isAtWord_b0 N k1 S
theorem kX8_isAtWord {l : Launch} {D : va_G} {g : Nat → Nat} {cI cB cZ cQ : ClassId} {Am : (Nat → Prop) → State → Heap → Prop} {aK aV : Nat → Nat} (O : xsO g cI cB cZ cQ Am aK aV) (P : gAm Am) (N : Nat) (k1 : Nat) (hk_k1 : sI k1 = true) (S : gS) (o : Int32 × gS) (hF : fX8_isAtWord N k1 S = some o) : gM l yX8_isAtWord cX8_isAtWord 3 ((some .boolean)) 4 D (xtys cI cB cZ cQ) (xcell g cI cB cZ cQ) xord g Am [.ref (g 2), .ref (aK k1)] S (some (.int o.1)) o.2 :=
  gM_of O.1.1 P (by decide) (Nat.le_of_ble_eq_true rfl) (fun p e s m args below meth c ls C X hl => bX8_isAtWord_0 C O hk_k1 X (lv_sub hl [0, 1] rfl) hF)
-- X8.kindOf
noncomputable def fX8_kindOf_b57 (N : Nat) (t0 : Int32) (S : gS) : Option (Int32 × gS) := some (t0, S)
theorem bX8_kindOf_57 {N : Nat} {t0 : Int32} {S : gS} {H : Heap} {locs : List Loc} {ls : Array Slot} {o : Int32 × gS} (C : gC p s m args meth c cX8_kindOf 1 RX8 ((some .int)) D (xtys cI cB cZ cQ) xord g Am) (O : xsO g cI cB cZ cQ Am aK aV) (X : gX D (xcell g cI cB cZ cQ) xord g S s H locs) (hl : lv_has ls 1 []) (hF : fX8_kindOf_b57 N t0 S = some o) : W p l e (rmd 4) s m args below meth c H locs 0 0 (gE below args s D (xtys cI cB cZ cQ) (xcell g cI cB cZ cQ) xord g (some (.int o.1)) o.2) (F0 m 57 ls [.int t0]) := by
  unfold fX8_kindOf_b57 at hF
  cases hF
  exact g_iret C X dX8_kindOf_57
noncomputable def fX8_kindOf_b56 (N : Nat) (S : gS) : Option (Int32 × gS) := fX8_kindOf_b57 N 4 S
theorem bX8_kindOf_56 {N : Nat} {S : gS} {H : Heap} {locs : List Loc} {ls : Array Slot} {o : Int32 × gS} (C : gC p s m args meth c cX8_kindOf 1 RX8 ((some .int)) D (xtys cI cB cZ cQ) xord g Am) (O : xsO g cI cB cZ cQ Am aK aV) (X : gX D (xcell g cI cB cZ cQ) xord g S s H locs) (hl : lv_has ls 1 []) (hF : fX8_kindOf_b56 N S = some o) : W p l e (rmd 4) s m args below meth c H locs 0 0 (gE below args s D (xtys cI cB cZ cQ) (xcell g cI cB cZ cQ) xord g (some (.int o.1)) o.2) (F0 m 56 ls []) := by
  unfold fX8_kindOf_b56 at hF
  refine lv_iconst (v := 4) C.1.1 C.1.2.1 dX8_kindOf_56 (by decide) ?_
  exact bX8_kindOf_57 C O X (lv_sub hl [] rfl) hF
noncomputable def fX8_kindOf_b52 (N : Nat) (S : gS) : Option (Int32 × gS) := fX8_kindOf_b57 N 3 S
theorem bX8_kindOf_52 {N : Nat} {S : gS} {H : Heap} {locs : List Loc} {ls : Array Slot} {o : Int32 × gS} (C : gC p s m args meth c cX8_kindOf 1 RX8 ((some .int)) D (xtys cI cB cZ cQ) xord g Am) (O : xsO g cI cB cZ cQ Am aK aV) (X : gX D (xcell g cI cB cZ cQ) xord g S s H locs) (hl : lv_has ls 1 []) (hF : fX8_kindOf_b52 N S = some o) : W p l e (rmd 4) s m args below meth c H locs 0 0 (gE below args s D (xtys cI cB cZ cQ) (xcell g cI cB cZ cQ) xord g (some (.int o.1)) o.2) (F0 m 52 ls []) := by
  unfold fX8_kindOf_b52 at hF
  refine lv_iconst (v := 3) C.1.1 C.1.2.1 dX8_kindOf_52 (by decide) ?_
  refine lv_goto (tgt := 57) C.1.1 C.1.2.1 dX8_kindOf_53 (by decide) ?_
  exact bX8_kindOf_57 C O X (lv_sub hl [] rfl) hF
noncomputable def fX8_kindOf_b42 (N : Nat) (x0 : Int32) (S : gS) : Option (Int32 × gS) := bnd (fJ0_indexOf_0f7a4 N 1 ((Int32.toUInt32 x0 % 65536).toInt32) S) fun q1 => (if q1.1 < 0 then fX8_kindOf_b56 N q1.2 else fX8_kindOf_b52 N q1.2)
theorem bX8_kindOf_42 {N : Nat} {x0 : Int32} {S : gS} {H : Heap} {locs : List Loc} {ls : Array Slot} {o : Int32 × gS} (C : gC p s m args meth c cX8_kindOf 1 RX8 ((some .int)) D (xtys cI cB cZ cQ) xord g Am) (O : xsO g cI cB cZ cQ Am aK aV) (X : gX D (xcell g cI cB cZ cQ) xord g S s H locs) (hl : lv_has ls 1 [(0, .int x0)]) (hF : fX8_kindOf_b42 N x0 S = some o) : W p l e (rmd 4) s m args below meth c H locs 0 0 (gE below args s D (xtys cI cB cZ cQ) (xcell g cI cB cZ cQ) xord g (some (.int o.1)) o.2) (F0 m 42 ls []) := by
  unfold fX8_kindOf_b42 at hF
  refine s_ldc C (xs_sO O) (i := 1) rfl dX8_kindOf_42 ?_
  refine lv_iload_n C.1.1 C.1.2.1 dX8_kindOf_44 rfl (lv_at hl 0 rfl) ?_
  refine lv_i2c (v := (Int32.toUInt32 x0 % 65536).toInt32) C.1.1 C.1.2.1 dX8_kindOf_45 rfl ?_
  obtain ⟨q1, hq1, hF⟩ := bnd_some hF
  refine s_callV C (xs_sO O) X xv_X8_61 rfl (rfl : sI 1 = true) (kJ0_indexOf_0f7a4 (xs_sO O) C.2.2.2.2.1 N 1 ((Int32.toUInt32 x0 % 65536).toInt32) (rfl : sI 1 = true) S q1 hq1) (Nat.le_of_ble_eq_true rfl) (Nat.le_of_ble_eq_true rfl) (Nat.le_of_ble_eq_true rfl) (Nat.le_of_ble_eq_true rfl) rfl hl.1 rfl (Nat.le_of_ble_eq_true rfl) dX8_kindOf_46 (fun H locs X => ?_)
  refine lv_if_lt (tgt := 56) C.1.1 C.1.2.1 dX8_kindOf_49 (by decide) (fun h_z => ?_) (fun h_z => ?_)
  · rw [if_pos h_z] at hF
    exact bX8_kindOf_56 C O X (lv_sub hl [] rfl) hF
  · rw [if_neg h_z] at hF
    exact bX8_kindOf_52 C O X (lv_sub hl [] rfl) hF
noncomputable def fX8_kindOf_b40 (N : Nat) (S : gS) : Option (Int32 × gS) := some (2, S)
theorem bX8_kindOf_40 {N : Nat} {S : gS} {H : Heap} {locs : List Loc} {ls : Array Slot} {o : Int32 × gS} (C : gC p s m args meth c cX8_kindOf 1 RX8 ((some .int)) D (xtys cI cB cZ cQ) xord g Am) (O : xsO g cI cB cZ cQ Am aK aV) (X : gX D (xcell g cI cB cZ cQ) xord g S s H locs) (hl : lv_has ls 1 []) (hF : fX8_kindOf_b40 N S = some o) : W p l e (rmd 4) s m args below meth c H locs 0 0 (gE below args s D (xtys cI cB cZ cQ) (xcell g cI cB cZ cQ) xord g (some (.int o.1)) o.2) (F0 m 40 ls []) := by
  unfold fX8_kindOf_b40 at hF
  refine lv_iconst (v := 2) C.1.1 C.1.2.1 dX8_kindOf_40 (by decide) ?_
  cases hF
  exact g_iret C X dX8_kindOf_41
noncomputable def fX8_kindOf_b34 (N : Nat) (x0 : Int32) (S : gS) : Option (Int32 × gS) := if 57 < x0 then fX8_kindOf_b42 N x0 S else fX8_kindOf_b40 N S
theorem bX8_kindOf_34 {N : Nat} {x0 : Int32} {S : gS} {H : Heap} {locs : List Loc} {ls : Array Slot} {o : Int32 × gS} (C : gC p s m args meth c cX8_kindOf 1 RX8 ((some .int)) D (xtys cI cB cZ cQ) xord g Am) (O : xsO g cI cB cZ cQ Am aK aV) (X : gX D (xcell g cI cB cZ cQ) xord g S s H locs) (hl : lv_has ls 1 [(0, .int x0)]) (hF : fX8_kindOf_b34 N x0 S = some o) : W p l e (rmd 4) s m args below meth c H locs 0 0 (gE below args s D (xtys cI cB cZ cQ) (xcell g cI cB cZ cQ) xord g (some (.int o.1)) o.2) (F0 m 34 ls []) := by
  unfold fX8_kindOf_b34 at hF
  refine lv_iload_n C.1.1 C.1.2.1 dX8_kindOf_34 rfl (lv_at hl 0 rfl) ?_
  refine lv_bipush (v := 57) C.1.1 C.1.2.1 dX8_kindOf_35 (by decide) ?_
  refine lv_icmp_gt (tgt := 42) C.1.1 C.1.2.1 dX8_kindOf_37 (by decide) (fun h_z => ?_) (fun h_z => ?_)
  · rw [if_pos h_z] at hF
    exact bX8_kindOf_42 C O X (lv_sub hl [0] rfl) hF
  · rw [if_neg h_z] at hF
    exact bX8_kindOf_40 C O X (lv_sub hl [] rfl) hF
noncomputable def fX8_kindOf_b28 (N : Nat) (x0 : Int32) (S : gS) : Option (Int32 × gS) := if x0 < 48 then fX8_kindOf_b42 N x0 S else fX8_kindOf_b34 N x0 S
theorem bX8_kindOf_28 {N : Nat} {x0 : Int32} {S : gS} {H : Heap} {locs : List Loc} {ls : Array Slot} {o : Int32 × gS} (C : gC p s m args meth c cX8_kindOf 1 RX8 ((some .int)) D (xtys cI cB cZ cQ) xord g Am) (O : xsO g cI cB cZ cQ Am aK aV) (X : gX D (xcell g cI cB cZ cQ) xord g S s H locs) (hl : lv_has ls 1 [(0, .int x0)]) (hF : fX8_kindOf_b28 N x0 S = some o) : W p l e (rmd 4) s m args below meth c H locs 0 0 (gE below args s D (xtys cI cB cZ cQ) (xcell g cI cB cZ cQ) xord g (some (.int o.1)) o.2) (F0 m 28 ls []) := by
  unfold fX8_kindOf_b28 at hF
  refine lv_iload_n C.1.1 C.1.2.1 dX8_kindOf_28 rfl (lv_at hl 0 rfl) ?_
  refine lv_bipush (v := 48) C.1.1 C.1.2.1 dX8_kindOf_29 (by decide) ?_
  refine lv_icmp_lt (tgt := 42) C.1.1 C.1.2.1 dX8_kindOf_31 (by decide) (fun h_z => ?_) (fun h_z => ?_)
  · rw [if_pos h_z] at hF
    exact bX8_kindOf_42 C O X (lv_sub hl [0] rfl) hF
  · rw [if_neg h_z] at hF
    exact bX8_kindOf_34 C O X (lv_sub hl [0] rfl) hF
noncomputable def fX8_kindOf_b26 (N : Nat) (S : gS) : Option (Int32 × gS) := some (1, S)
theorem bX8_kindOf_26 {N : Nat} {S : gS} {H : Heap} {locs : List Loc} {ls : Array Slot} {o : Int32 × gS} (C : gC p s m args meth c cX8_kindOf 1 RX8 ((some .int)) D (xtys cI cB cZ cQ) xord g Am) (O : xsO g cI cB cZ cQ Am aK aV) (X : gX D (xcell g cI cB cZ cQ) xord g S s H locs) (hl : lv_has ls 1 []) (hF : fX8_kindOf_b26 N S = some o) : W p l e (rmd 4) s m args below meth c H locs 0 0 (gE below args s D (xtys cI cB cZ cQ) (xcell g cI cB cZ cQ) xord g (some (.int o.1)) o.2) (F0 m 26 ls []) := by
  unfold fX8_kindOf_b26 at hF
  refine lv_iconst (v := 1) C.1.1 C.1.2.1 dX8_kindOf_26 (by decide) ?_
  cases hF
  exact g_iret C X dX8_kindOf_27
noncomputable def fX8_kindOf_b20 (N : Nat) (x0 : Int32) (S : gS) : Option (Int32 × gS) := if 122 < x0 then fX8_kindOf_b28 N x0 S else fX8_kindOf_b26 N S
theorem bX8_kindOf_20 {N : Nat} {x0 : Int32} {S : gS} {H : Heap} {locs : List Loc} {ls : Array Slot} {o : Int32 × gS} (C : gC p s m args meth c cX8_kindOf 1 RX8 ((some .int)) D (xtys cI cB cZ cQ) xord g Am) (O : xsO g cI cB cZ cQ Am aK aV) (X : gX D (xcell g cI cB cZ cQ) xord g S s H locs) (hl : lv_has ls 1 [(0, .int x0)]) (hF : fX8_kindOf_b20 N x0 S = some o) : W p l e (rmd 4) s m args below meth c H locs 0 0 (gE below args s D (xtys cI cB cZ cQ) (xcell g cI cB cZ cQ) xord g (some (.int o.1)) o.2) (F0 m 20 ls []) := by
  unfold fX8_kindOf_b20 at hF
  refine lv_iload_n C.1.1 C.1.2.1 dX8_kindOf_20 rfl (lv_at hl 0 rfl) ?_
  refine lv_bipush (v := 122) C.1.1 C.1.2.1 dX8_kindOf_21 (by decide) ?_
  refine lv_icmp_gt (tgt := 28) C.1.1 C.1.2.1 dX8_kindOf_23 (by decide) (fun h_z => ?_) (fun h_z => ?_)
  · rw [if_pos h_z] at hF
    exact bX8_kindOf_28 C O X (lv_sub hl [0] rfl) hF
  · rw [if_neg h_z] at hF
    exact bX8_kindOf_26 C O X (lv_sub hl [] rfl) hF
noncomputable def fX8_kindOf_b14 (N : Nat) (x0 : Int32) (S : gS) : Option (Int32 × gS) := if x0 < 97 then fX8_kindOf_b28 N x0 S else fX8_kindOf_b20 N x0 S
theorem bX8_kindOf_14 {N : Nat} {x0 : Int32} {S : gS} {H : Heap} {locs : List Loc} {ls : Array Slot} {o : Int32 × gS} (C : gC p s m args meth c cX8_kindOf 1 RX8 ((some .int)) D (xtys cI cB cZ cQ) xord g Am) (O : xsO g cI cB cZ cQ Am aK aV) (X : gX D (xcell g cI cB cZ cQ) xord g S s H locs) (hl : lv_has ls 1 [(0, .int x0)]) (hF : fX8_kindOf_b14 N x0 S = some o) : W p l e (rmd 4) s m args below meth c H locs 0 0 (gE below args s D (xtys cI cB cZ cQ) (xcell g cI cB cZ cQ) xord g (some (.int o.1)) o.2) (F0 m 14 ls []) := by
  unfold fX8_kindOf_b14 at hF
  refine lv_iload_n C.1.1 C.1.2.1 dX8_kindOf_14 rfl (lv_at hl 0 rfl) ?_
  refine lv_bipush (v := 97) C.1.1 C.1.2.1 dX8_kindOf_15 (by decide) ?_
  refine lv_icmp_lt (tgt := 28) C.1.1 C.1.2.1 dX8_kindOf_17 (by decide) (fun h_z => ?_) (fun h_z => ?_)
  · rw [if_pos h_z] at hF
    exact bX8_kindOf_28 C O X (lv_sub hl [0] rfl) hF
  · rw [if_neg h_z] at hF
    exact bX8_kindOf_20 C O X (lv_sub hl [0] rfl) hF
noncomputable def fX8_kindOf_b12 (N : Nat) (S : gS) : Option (Int32 × gS) := some (5, S)
theorem bX8_kindOf_12 {N : Nat} {S : gS} {H : Heap} {locs : List Loc} {ls : Array Slot} {o : Int32 × gS} (C : gC p s m args meth c cX8_kindOf 1 RX8 ((some .int)) D (xtys cI cB cZ cQ) xord g Am) (O : xsO g cI cB cZ cQ Am aK aV) (X : gX D (xcell g cI cB cZ cQ) xord g S s H locs) (hl : lv_has ls 1 []) (hF : fX8_kindOf_b12 N S = some o) : W p l e (rmd 4) s m args below meth c H locs 0 0 (gE below args s D (xtys cI cB cZ cQ) (xcell g cI cB cZ cQ) xord g (some (.int o.1)) o.2) (F0 m 12 ls []) := by
  unfold fX8_kindOf_b12 at hF
  refine lv_iconst (v := 5) C.1.1 C.1.2.1 dX8_kindOf_12 (by decide) ?_
  cases hF
  exact g_iret C X dX8_kindOf_13
noncomputable def fX8_kindOf_b6 (N : Nat) (x0 : Int32) (S : gS) : Option (Int32 × gS) := if x0 = 10 then fX8_kindOf_b12 N S else fX8_kindOf_b14 N x0 S
theorem bX8_kindOf_6 {N : Nat} {x0 : Int32} {S : gS} {H : Heap} {locs : List Loc} {ls : Array Slot} {o : Int32 × gS} (C : gC p s m args meth c cX8_kindOf 1 RX8 ((some .int)) D (xtys cI cB cZ cQ) xord g Am) (O : xsO g cI cB cZ cQ Am aK aV) (X : gX D (xcell g cI cB cZ cQ) xord g S s H locs) (hl : lv_has ls 1 [(0, .int x0)]) (hF : fX8_kindOf_b6 N x0 S = some o) : W p l e (rmd 4) s m args below meth c H locs 0 0 (gE below args s D (xtys cI cB cZ cQ) (xcell g cI cB cZ cQ) xord g (some (.int o.1)) o.2) (F0 m 6 ls []) := by
  unfold fX8_kindOf_b6 at hF
  refine lv_iload_n C.1.1 C.1.2.1 dX8_kindOf_6 rfl (lv_at hl 0 rfl) ?_
  refine lv_bipush (v := 10) C.1.1 C.1.2.1 dX8_kindOf_7 (by decide) ?_
  refine lv_icmp_ne (tgt := 14) C.1.1 C.1.2.1 dX8_kindOf_9 (by decide) (fun h_z => ?_) (fun h_z => ?_)
  · rw [if_neg h_z] at hF
    exact bX8_kindOf_14 C O X (lv_sub hl [0] rfl) hF
  · rw [if_pos h_z] at hF
    exact bX8_kindOf_12 C O X (lv_sub hl [] rfl) hF
noncomputable def fX8_kindOf_b0 (N : Nat) (x0 : Int32) (S : gS) : Option (Int32 × gS) := if x0 = 32 then fX8_kindOf_b12 N S else fX8_kindOf_b6 N x0 S
theorem bX8_kindOf_0 {N : Nat} {x0 : Int32} {S : gS} {H : Heap} {locs : List Loc} {ls : Array Slot} {o : Int32 × gS} (C : gC p s m args meth c cX8_kindOf 1 RX8 ((some .int)) D (xtys cI cB cZ cQ) xord g Am) (O : xsO g cI cB cZ cQ Am aK aV) (X : gX D (xcell g cI cB cZ cQ) xord g S s H locs) (hl : lv_has ls 1 [(0, .int x0)]) (hF : fX8_kindOf_b0 N x0 S = some o) : W p l e (rmd 4) s m args below meth c H locs 0 0 (gE below args s D (xtys cI cB cZ cQ) (xcell g cI cB cZ cQ) xord g (some (.int o.1)) o.2) (F0 m 0 ls []) := by
  unfold fX8_kindOf_b0 at hF
  refine lv_iload_n C.1.1 C.1.2.1 dX8_kindOf_0 rfl (lv_at hl 0 rfl) ?_
  refine lv_bipush (v := 32) C.1.1 C.1.2.1 dX8_kindOf_1 (by decide) ?_
  refine lv_icmp_eq (tgt := 12) C.1.1 C.1.2.1 dX8_kindOf_3 (by decide) (fun h_z => ?_) (fun h_z => ?_)
  · rw [if_pos h_z] at hF
    exact bX8_kindOf_12 C O X (lv_sub hl [] rfl) hF
  · rw [if_neg h_z] at hF
    exact bX8_kindOf_6 C O X (lv_sub hl [0] rfl) hF
noncomputable def fX8_kindOf (N : Nat) (x0 : Int32) (S : gS) : Option (Int32 × gS) := fX8_kindOf_b0 N x0 S
theorem kX8_kindOf {l : Launch} {D : va_G} {g : Nat → Nat} {cI cB cZ cQ : ClassId} {Am : (Nat → Prop) → State → Heap → Prop} {aK aV : Nat → Nat} (O : xsO g cI cB cZ cQ Am aK aV) (P : gAm Am) (N : Nat) (x0 : Int32) (S : gS) (o : Int32 × gS) (hF : fX8_kindOf N x0 S = some o) : gM l yX8_kindOf cX8_kindOf 1 ((some .int)) 4 D (xtys cI cB cZ cQ) (xcell g cI cB cZ cQ) xord g Am [.int x0] S (some (.int o.1)) o.2 :=
  gM_of O.1.1 P (by decide) (Nat.le_of_ble_eq_true rfl) (fun p e s m args below meth c ls C X hl => bX8_kindOf_0 C O X (lv_sub hl [0] rfl) hF)
-- X11.hours
noncomputable def fX11_hours_b76 (N : Nat) (S : gS) : Option (Int32 × gS) := some (S 21 0, S)
theorem bX11_hours_76 {N : Nat} {S : gS} {H : Heap} {locs : List Loc} {ls : Array Slot} {o : Int32 × gS} (C : gC p s m args meth c cX11_hours 4 RX11 ((some .int)) D (xtys cI cB cZ cQ) xord g Am) (O : xsO g cI cB cZ cQ Am aK aV) (X : gX D (xcell g cI cB cZ cQ) xord g S s H locs) (hl : lv_has ls 4 [(2, .ref (g 21))]) (hF : fX11_hours_b76 N S = some o) : W p l e (rmd 5) s m args below meth c H locs 0 0 (gE below args s D (xtys cI cB cZ cQ) (xcell g cI cB cZ cQ) xord g (some (.int o.1)) o.2) (F0 m 76 ls []) := by
  unfold fX11_hours_b76 at hF
  refine lv_aload_n C.1.1 C.1.2.1 dX11_hours_76 rfl (lv_at hl 0 rfl) ?_
  refine xg_X11_114 C O.1 X (k := 21) rfl dX11_hours_77 ?_
  cases hF
  exact g_iret C X dX11_hours_80
noncomputable def fX11_hours_b53 (N : Nat) (r48 : Int32 → Int32 → gS → Option (Int32 × gS)) (x1 : Int32) (x3 : Int32) (S : gS) : Option (Int32 × gS) := lt (xtw S) fun T1 => (bnd (fX9_wetOf N T1 (S 21 0) S) fun q1 => (bnd (fX11_passHour N 21 q1.1 q1.2) fun q2 => (r48 x1 ((x3 + 1 : Int32)) q2.2)))
theorem bX11_hours_53 {N : Nat} {r48 : Int32 → Int32 → gS → Option (Int32 × gS)} {x1 : Int32} {x3 : Int32} {S : gS} {H : Heap} {locs : List Loc} {ls : Array Slot} {o : Int32 × gS} (C : gC p s m args meth c cX11_hours 4 RX11 ((some .int)) D (xtys cI cB cZ cQ) xord g Am) (O : xsO g cI cB cZ cQ Am aK aV) (K48 : ∀ (x1 : Int32) (x3 : Int32) (S : gS) (H : Heap) (locs : List Loc) (ls : Array Slot), gX D (xcell g cI cB cZ cQ) xord g S s H locs → lv_has ls 4 [(0, .ref (g 0)), (1, .int x1), (2, .ref (g 21)), (3, .int x3)] → r48 x1 x3 S = some o → W p l e (rmd 5) s m args below meth c H locs 0 0 (gE below args s D (xtys cI cB cZ cQ) (xcell g cI cB cZ cQ) xord g (some (.int o.1)) o.2) (F0 m 48 ls [])) (X : gX D (xcell g cI cB cZ cQ) xord g S s H locs) (hl : lv_has ls 4 [(0, .ref (g 0)), (1, .int x1), (2, .ref (g 21)), (3, .int x3)]) (hF : fX11_hours_b53 N r48 x1 x3 S = some o) : W p l e (rmd 5) s m args below meth c H locs 0 0 (gE below args s D (xtys cI cB cZ cQ) (xcell g cI cB cZ cQ) xord g (some (.int o.1)) o.2) (F0 m 53 ls []) := by
  unfold fX11_hours_b53 at hF
  refine lv_aload_n C.1.1 C.1.2.1 dX11_hours_53 rfl (lv_at hl 0 rfl) ?_
  refine lv_aload_n C.1.1 C.1.2.1 dX11_hours_54 rfl (lv_at hl 2 rfl) ?_
  refine lv_aload_n C.1.1 C.1.2.1 dX11_hours_55 rfl (lv_at hl 0 rfl) ?_
  obtain ⟨T1, eT1, hF⟩ := lt_some hF
  have hk_T1 := xtw_k eT1
  refine xg_X11_57 C O.1 X (T := T1) eT1 (k := 0) rfl dX11_hours_56 ?_
  refine lv_aload_n C.1.1 C.1.2.1 dX11_hours_59 rfl (lv_at hl 2 rfl) ?_
  refine xg_X11_114 C O.1 X (k := 21) rfl dX11_hours_60 ?_
  obtain ⟨q1, hq1, hF⟩ := bnd_some hF
  refine x_callVi C X (k := T1) xv_X11_117 hk_T1 rfl rfl (by decide) (kX9_wetOf O.1 C.2.2.2.2.1 N T1 (S 21 0) (hk_T1 : xk T1 = 9) S q1 hq1) (Nat.le_of_ble_eq_true rfl) (Nat.le_of_ble_eq_true rfl) (Nat.le_of_ble_eq_true rfl) (Nat.le_of_ble_eq_true rfl) rfl hl.1 rfl (Nat.le_of_ble_eq_true rfl) dX11_hours_63 (fun H locs X => ?_)
  obtain ⟨q2, hq2, hF⟩ := bnd_some hF
  refine x_callVi C X (k := 0) xv_X11_221 (rfl : xk 0 = 11) rfl rfl (by decide) (kX11_passHour O.1 C.2.2.2.2.1 N 21 q1.1 (rfl : xk 21 = 7) q1.2 q2 hq2) (Nat.le_of_ble_eq_true rfl) (Nat.le_of_ble_eq_true rfl) (Nat.le_of_ble_eq_true rfl) (Nat.le_of_ble_eq_true rfl) rfl hl.1 rfl (Nat.le_of_ble_eq_true rfl) dX11_hours_66 (fun H locs X => ?_)
  refine lv_pop C.1.1 C.1.2.1 dX11_hours_69 rfl ?_
  refine lv_iinc (v := (x3 + 1 : Int32)) (lv' := [(3, .int ((x3 + 1 : Int32))), (0, .ref (g 0)), (1, .int x1), (2, .ref (g 21))]) C.1.1 C.1.2.1 dX11_hours_70 hl (k := 3) rfl rfl (by decide) rfl (fun ls hl => ?_)
  refine lv_goto (tgt := 48) C.1.1 C.1.2.1 dX11_hours_73 (by decide) ?_
  exact K48 _ _ _ _ _ _ X (lv_sub hl [1, 2, 3, 0] rfl) hF
noncomputable def fX11_hours_b48 (N : Nat) (r48 : Int32 → Int32 → gS → Option (Int32 × gS)) (x1 : Int32) (x3 : Int32) (S : gS) : Option (Int32 × gS) := if x1 ≤ x3 then fX11_hours_b76 N S else fX11_hours_b53 N r48 x1 x3 S
theorem bX11_hours_48 {N : Nat} {r48 : Int32 → Int32 → gS → Option (Int32 × gS)} {x1 : Int32} {x3 : Int32} {S : gS} {H : Heap} {locs : List Loc} {ls : Array Slot} {o : Int32 × gS} (C : gC p s m args meth c cX11_hours 4 RX11 ((some .int)) D (xtys cI cB cZ cQ) xord g Am) (O : xsO g cI cB cZ cQ Am aK aV) (K48 : ∀ (x1 : Int32) (x3 : Int32) (S : gS) (H : Heap) (locs : List Loc) (ls : Array Slot), gX D (xcell g cI cB cZ cQ) xord g S s H locs → lv_has ls 4 [(0, .ref (g 0)), (1, .int x1), (2, .ref (g 21)), (3, .int x3)] → r48 x1 x3 S = some o → W p l e (rmd 5) s m args below meth c H locs 0 0 (gE below args s D (xtys cI cB cZ cQ) (xcell g cI cB cZ cQ) xord g (some (.int o.1)) o.2) (F0 m 48 ls [])) (X : gX D (xcell g cI cB cZ cQ) xord g S s H locs) (hl : lv_has ls 4 [(0, .ref (g 0)), (1, .int x1), (2, .ref (g 21)), (3, .int x3)]) (hF : fX11_hours_b48 N r48 x1 x3 S = some o) : W p l e (rmd 5) s m args below meth c H locs 0 0 (gE below args s D (xtys cI cB cZ cQ) (xcell g cI cB cZ cQ) xord g (some (.int o.1)) o.2) (F0 m 48 ls []) := by
  unfold fX11_hours_b48 at hF
  refine lv_iload_n C.1.1 C.1.2.1 dX11_hours_48 rfl (lv_at hl 3 rfl) ?_
  refine lv_iload_n C.1.1 C.1.2.1 dX11_hours_49 rfl (lv_at hl 1 rfl) ?_
  refine lv_icmp_ge (tgt := 76) C.1.1 C.1.2.1 dX11_hours_50 (by decide) (fun h_z => ?_) (fun h_z => ?_)
  · rw [if_pos h_z] at hF
    exact bX11_hours_76 C O X (lv_sub hl [2] rfl) hF
  · rw [if_neg h_z] at hF
    exact bX11_hours_53 C O K48 X (lv_sub hl [0, 1, 2, 3] rfl) hF
noncomputable def fX11_hours_h48 (N : Nat) : Nat → Int32 → Int32 → gS → Option (Int32 × gS)
  | 0, _, _, _ => none
  | n + 1, x1, x3, S => fX11_hours_b48 N (fX11_hours_h48 N n) x1 x3 S
theorem hX11_hours_48 {N : Nat} {o : Int32 × gS} (C : gC p s m args meth c cX11_hours 4 RX11 ((some .int)) D (xtys cI cB cZ cQ) xord g Am) (O : xsO g cI cB cZ cQ Am aK aV) : ∀ (n : Nat) (x1 : Int32) (x3 : Int32) (S : gS) (H : Heap) (locs : List Loc) (ls : Array Slot), gX D (xcell g cI cB cZ cQ) xord g S s H locs → lv_has ls 4 [(0, .ref (g 0)), (1, .int x1), (2, .ref (g 21)), (3, .int x3)] → fX11_hours_h48 N n x1 x3 S = some o → W p l e (rmd 5) s m args below meth c H locs 0 0 (gE below args s D (xtys cI cB cZ cQ) (xcell g cI cB cZ cQ) xord g (some (.int o.1)) o.2) (F0 m 48 ls []) := by
  intro n
  induction n with
  | zero =>
    intro x1 x3 S H locs ls X hl hF
    exact absurd (show (none : Option (Int32 × gS)) = some o from hF) (by simp)
  | succ n ih =>
    intro x1 x3 S H locs ls X hl hF
    have hF : fX11_hours_b48 N (fX11_hours_h48 N n) x1 x3 S = some o := hF
    exact bX11_hours_48 C O ih X hl hF
noncomputable def fX11_hours_b39 (N : Nat) (x1 : Int32) (S : gS) : Option (Int32 × gS) := bnd (fX1_keepAct N 20 S) fun q1 => (fX11_hours_h48 N N x1 0 q1.2)
theorem bX11_hours_39 {N : Nat} {x1 : Int32} {S : gS} {H : Heap} {locs : List Loc} {ls : Array Slot} {o : Int32 × gS} (C : gC p s m args meth c cX11_hours 4 RX11 ((some .int)) D (xtys cI cB cZ cQ) xord g Am) (O : xsO g cI cB cZ cQ Am aK aV) (X : gX D (xcell g cI cB cZ cQ) xord g S s H locs) (hl : lv_has ls 4 [(0, .ref (g 0)), (1, .int x1), (2, .ref (g 21))]) (hF : fX11_hours_b39 N x1 S = some o) : W p l e (rmd 5) s m args below meth c H locs 0 0 (gE below args s D (xtys cI cB cZ cQ) (xcell g cI cB cZ cQ) xord g (some (.int o.1)) o.2) (F0 m 39 ls []) := by
  unfold fX11_hours_b39 at hF
  refine lv_aload_n C.1.1 C.1.2.1 dX11_hours_39 rfl (lv_at hl 0 rfl) ?_
  refine xg_X11_19 C O.1 X (k := 0) rfl (j := 20) rfl dX11_hours_40 ?_
  obtain ⟨q1, hq1, hF⟩ := bnd_some hF
  refine x_callV C X (k := 20) xv_X11_218 (rfl : xk 20 = 1) rfl rfl (by decide) (kX1_keepAct O C.2.2.2.2.1 N 20 (rfl : xk 20 = 1) S q1 hq1) (Nat.le_of_ble_eq_true rfl) (Nat.le_of_ble_eq_true rfl) (Nat.le_of_ble_eq_true rfl) (Nat.le_of_ble_eq_true rfl) rfl hl.1 rfl (Nat.le_of_ble_eq_true rfl) dX11_hours_43 (fun H locs X => ?_)
  refine lv_iconst (v := 0) C.1.1 C.1.2.1 dX11_hours_46 (by decide) ?_
  refine lv_istore_n (lv' := [(3, .int 0), (0, .ref (g 0)), (1, .int x1), (2, .ref (g 21))]) C.1.1 C.1.2.1 dX11_hours_47 rfl hl (by decide) rfl (fun ls hl => ?_)
  exact hX11_hours_48 C O N _ _ _ _ _ _ X (lv_sub hl [1, 2, 3, 0] rfl) hF
noncomputable def fX11_hours_b30 (N : Nat) (S : gS) : Option (Int32 × gS) := bnd (fX1_refuse N 20 1 S) fun q1 => (some (q1.1, q1.2))
theorem bX11_hours_30 {N : Nat} {S : gS} {H : Heap} {locs : List Loc} {ls : Array Slot} {o : Int32 × gS} (C : gC p s m args meth c cX11_hours 4 RX11 ((some .int)) D (xtys cI cB cZ cQ) xord g Am) (O : xsO g cI cB cZ cQ Am aK aV) (X : gX D (xcell g cI cB cZ cQ) xord g S s H locs) (hl : lv_has ls 4 [(0, .ref (g 0))]) (hF : fX11_hours_b30 N S = some o) : W p l e (rmd 5) s m args below meth c H locs 0 0 (gE below args s D (xtys cI cB cZ cQ) (xcell g cI cB cZ cQ) xord g (some (.int o.1)) o.2) (F0 m 30 ls []) := by
  unfold fX11_hours_b30 at hF
  refine lv_aload_n C.1.1 C.1.2.1 dX11_hours_30 rfl (lv_at hl 0 rfl) ?_
  refine xg_X11_19 C O.1 X (k := 0) rfl (j := 20) rfl dX11_hours_31 ?_
  refine lv_iconst (v := 1) C.1.1 C.1.2.1 dX11_hours_34 (by decide) ?_
  obtain ⟨q1, hq1, hF⟩ := bnd_some hF
  refine x_callVi C X (k := 20) xv_X11_93 (rfl : xk 20 = 1) rfl rfl (by decide) (kX1_refuse O.1 C.2.2.2.2.1 N 20 1 (rfl : xk 20 = 1) S q1 hq1) (Nat.le_of_ble_eq_true rfl) (Nat.le_of_ble_eq_true rfl) (Nat.le_of_ble_eq_true rfl) (Nat.le_of_ble_eq_true rfl) rfl hl.1 rfl (Nat.le_of_ble_eq_true rfl) dX11_hours_35 (fun H locs X => ?_)
  cases hF
  exact g_iret C X dX11_hours_38
noncomputable def fX11_hours_b18 (N : Nat) (x1 : Int32) (S : gS) : Option (Int32 × gS) := if (((S 21 0) + x1 : Int32)) ≤ 999 then fX11_hours_b39 N x1 S else fX11_hours_b30 N S
theorem bX11_hours_18 {N : Nat} {x1 : Int32} {S : gS} {H : Heap} {locs : List Loc} {ls : Array Slot} {o : Int32 × gS} (C : gC p s m args meth c cX11_hours 4 RX11 ((some .int)) D (xtys cI cB cZ cQ) xord g Am) (O : xsO g cI cB cZ cQ Am aK aV) (X : gX D (xcell g cI cB cZ cQ) xord g S s H locs) (hl : lv_has ls 4 [(0, .ref (g 0)), (1, .int x1), (2, .ref (g 21))]) (hF : fX11_hours_b18 N x1 S = some o) : W p l e (rmd 5) s m args below meth c H locs 0 0 (gE below args s D (xtys cI cB cZ cQ) (xcell g cI cB cZ cQ) xord g (some (.int o.1)) o.2) (F0 m 18 ls []) := by
  unfold fX11_hours_b18 at hF
  refine lv_aload_n C.1.1 C.1.2.1 dX11_hours_18 rfl (lv_at hl 2 rfl) ?_
  refine xg_X11_114 C O.1 X (k := 21) rfl dX11_hours_19 ?_
  refine lv_iload_n C.1.1 C.1.2.1 dX11_hours_22 rfl (lv_at hl 1 rfl) ?_
  refine lv_iadd C.1.1 C.1.2.1 dX11_hours_23 ?_
  refine lv_sipush (v := 999) C.1.1 C.1.2.1 dX11_hours_24 (by decide) ?_
  refine lv_icmp_le (tgt := 39) C.1.1 C.1.2.1 dX11_hours_27 (by decide) (fun h_z => ?_) (fun h_z => ?_)
  · rw [if_pos h_z] at hF
    exact bX11_hours_39 C O X (lv_sub hl [0, 1, 2] rfl) hF
  · rw [if_neg h_z] at hF
    exact bX11_hours_30 C O X (lv_sub hl [0] rfl) hF
noncomputable def fX11_hours_b0 (N : Nat) (x1 : Int32) (S : gS) : Option (Int32 × gS) := bnd (fX11_isWithin N x1 1 20 S) fun q1 => (if q1.1 = 0 then fX11_hours_b30 N q1.2 else fX11_hours_b18 N x1 q1.2)
theorem bX11_hours_0 {N : Nat} {x1 : Int32} {S : gS} {H : Heap} {locs : List Loc} {ls : Array Slot} {o : Int32 × gS} (C : gC p s m args meth c cX11_hours 4 RX11 ((some .int)) D (xtys cI cB cZ cQ) xord g Am) (O : xsO g cI cB cZ cQ Am aK aV) (X : gX D (xcell g cI cB cZ cQ) xord g S s H locs) (hl : lv_has ls 4 [(0, .ref (g 0)), (1, .int x1)]) (hF : fX11_hours_b0 N x1 S = some o) : W p l e (rmd 5) s m args below meth c H locs 0 0 (gE below args s D (xtys cI cB cZ cQ) (xcell g cI cB cZ cQ) xord g (some (.int o.1)) o.2) (F0 m 0 ls []) := by
  unfold fX11_hours_b0 at hF
  refine lv_aload_n C.1.1 C.1.2.1 dX11_hours_0 rfl (lv_at hl 0 rfl) ?_
  refine xg_X11_19 C O.1 X (k := 0) rfl (j := 20) rfl dX11_hours_1 ?_
  refine xg_X11_105 C O.1 X (k := 20) rfl (j := 21) rfl dX11_hours_4 ?_
  refine lv_astore_n (lv' := [(2, .ref (g 21)), (0, .ref (g 0)), (1, .int x1)]) C.1.1 C.1.2.1 dX11_hours_7 rfl hl (by decide) rfl (fun ls hl => ?_)
  refine lv_iload_n C.1.1 C.1.2.1 dX11_hours_8 rfl (lv_at hl 2 rfl) ?_
  refine lv_iconst (v := 1) C.1.1 C.1.2.1 dX11_hours_9 (by decide) ?_
  refine lv_bipush (v := 20) C.1.1 C.1.2.1 dX11_hours_10 (by decide) ?_
  obtain ⟨q1, hq1, hF⟩ := bnd_some hF
  refine g_callSi C X xv_X11_214 (kX11_isWithin O.1 C.2.2.2.2.1 N x1 1 20 S q1 hq1) (Nat.le_of_ble_eq_true rfl) (Nat.le_of_ble_eq_true rfl) (Nat.le_of_ble_eq_true rfl) (Nat.le_of_ble_eq_true rfl) rfl hl.1 rfl (Nat.le_of_ble_eq_true rfl) dX11_hours_12 (fun H locs X => ?_)
  refine lv_if_eq (tgt := 30) C.1.1 C.1.2.1 dX11_hours_15 (by decide) (fun h_z => ?_) (fun h_z => ?_)
  · rw [if_pos h_z] at hF
    exact bX11_hours_30 C O X (lv_sub hl [1] rfl) hF
  · rw [if_neg h_z] at hF
    exact bX11_hours_18 C O X (lv_sub hl [1, 2, 0] rfl) hF
noncomputable def fX11_hours (N : Nat) (x1 : Int32) (S : gS) : Option (Int32 × gS) := fX11_hours_b0 N x1 S
theorem kX11_hours {l : Launch} {D : va_G} {g : Nat → Nat} {cI cB cZ cQ : ClassId} {Am : (Nat → Prop) → State → Heap → Prop} {aK aV : Nat → Nat} (O : xsO g cI cB cZ cQ Am aK aV) (P : gAm Am) (N : Nat) (x1 : Int32) (S : gS) (o : Int32 × gS) (hF : fX11_hours N x1 S = some o) : gM l yX11_hours cX11_hours 4 ((some .int)) 5 D (xtys cI cB cZ cQ) (xcell g cI cB cZ cQ) xord g Am [.ref (g 0), .int x1] S (some (.int o.1)) o.2 :=
  gM_of O.1.1 P (by decide) (Nat.le_of_ble_eq_true rfl) (fun p e s m args below meth c ls C X hl => bX11_hours_0 C O X (lv_sub hl [0, 1] rfl) hF)
-- X11.image
noncomputable def fX11_image_b0 (N : Nat) (S : gS) : Option (Int32 × gS) := bnd (fX1_copy N 33 20 S) fun q1 => (lt (sU q1.2 0 8 1) fun S1 => (some (0, S1)))
theorem bX11_image_0 {N : Nat} {S : gS} {H : Heap} {locs : List Loc} {ls : Array Slot} {o : Int32 × gS} (C : gC p s m args meth c cX11_image 1 RX11 none D (xtys cI cB cZ cQ) xord g Am) (O : xsO g cI cB cZ cQ Am aK aV) (X : gX D (xcell g cI cB cZ cQ) xord g S s H locs) (hl : lv_has ls 1 [(0, .ref (g 0))]) (hF : fX11_image_b0 N S = some o) : W p l e (rmd 3) s m args below meth c H locs 0 0 (gE below args s D (xtys cI cB cZ cQ) (xcell g cI cB cZ cQ) xord g none o.2) (F0 m 0 ls []) := by
  unfold fX11_image_b0 at hF
  refine lv_aload_n C.1.1 C.1.2.1 dX11_image_0 rfl (lv_at hl 0 rfl) ?_
  refine xg_X11_23 C O.1 X (k := 0) rfl (j := 33) rfl dX11_image_1 ?_
  refine lv_aload_n C.1.1 C.1.2.1 dX11_image_4 rfl (lv_at hl 0 rfl) ?_
  refine xg_X11_19 C O.1 X (k := 0) rfl (j := 20) rfl dX11_image_5 ?_
  obtain ⟨q1, hq1, hF⟩ := bnd_some hF
  refine x_callV C X (k := 33) xv_X11_363 (rfl : xk 33 = 1) rfl rfl (by decide) (kX1_copy O C.2.2.2.2.1 N 33 20 (rfl : xk 33 = 1) (rfl : xk 20 = 1) S q1 hq1) (Nat.le_of_ble_eq_true rfl) (Nat.le_of_ble_eq_true rfl) (Nat.le_of_ble_eq_true rfl) (Nat.le_of_ble_eq_true rfl) rfl hl.1 rfl (Nat.le_of_ble_eq_true rfl) dX11_image_8 (fun H locs X => ?_)
  refine lv_aload_n C.1.1 C.1.2.1 dX11_image_11 rfl (lv_at hl 0 rfl) ?_
  refine lv_iconst (v := 1) C.1.1 C.1.2.1 dX11_image_12 (by decide) ?_
  obtain ⟨S1, eS1, hF⟩ := lt_some hF
  refine xp_X11_61 C O.1 X (k := 0) rfl (by decide) eS1 dX11_image_13 (fun H locs X => ?_)
  cases hF
  exact g_vret C X dX11_image_16
noncomputable def fX11_image (N : Nat) (S : gS) : Option (Int32 × gS) := fX11_image_b0 N S
theorem kX11_image {l : Launch} {D : va_G} {g : Nat → Nat} {cI cB cZ cQ : ClassId} {Am : (Nat → Prop) → State → Heap → Prop} {aK aV : Nat → Nat} (O : xsO g cI cB cZ cQ Am aK aV) (P : gAm Am) (N : Nat) (S : gS) (o : Int32 × gS) (hF : fX11_image N S = some o) : gM l yX11_image cX11_image 1 none 3 D (xtys cI cB cZ cQ) (xcell g cI cB cZ cQ) xord g Am [.ref (g 0)] S none o.2 :=
  gM_of O.1.1 P (by decide) (Nat.le_of_ble_eq_true rfl) (fun p e s m args below meth c ls C X hl => bX11_image_0 C O X (lv_sub hl [0] rfl) hF)
-- X11.restore
noncomputable def fX11_restore_b18 (N : Nat) (S : gS) : Option (Int32 × gS) := chk (zb (S 0 8)) (some (S 0 8, S))
theorem bX11_restore_18 {N : Nat} {S : gS} {H : Heap} {locs : List Loc} {ls : Array Slot} {o : Int32 × gS} (C : gC p s m args meth c cX11_restore 1 RX11 ((some .boolean)) D (xtys cI cB cZ cQ) xord g Am) (O : xsO g cI cB cZ cQ Am aK aV) (X : gX D (xcell g cI cB cZ cQ) xord g S s H locs) (hl : lv_has ls 1 [(0, .ref (g 0))]) (hF : fX11_restore_b18 N S = some o) : W p l e (rmd 3) s m args below meth c H locs 0 0 (gE below args s D (xtys cI cB cZ cQ) (xcell g cI cB cZ cQ) xord g (some (.int o.1)) o.2) (F0 m 18 ls []) := by
  unfold fX11_restore_b18 at hF
  refine lv_aload_n C.1.1 C.1.2.1 dX11_restore_18 rfl (lv_at hl 0 rfl) ?_
  refine xg_X11_61 C O.1 X (k := 0) rfl dX11_restore_19 ?_
  obtain ⟨h_1, hF⟩ := chk_some hF
  cases hF
  exact g_zret C X h_1 dX11_restore_22
noncomputable def fX11_restore_b7 (N : Nat) (S : gS) : Option (Int32 × gS) := bnd (fX1_copy N 20 33 S) fun q1 => (fX11_restore_b18 N q1.2)
theorem bX11_restore_7 {N : Nat} {S : gS} {H : Heap} {locs : List Loc} {ls : Array Slot} {o : Int32 × gS} (C : gC p s m args meth c cX11_restore 1 RX11 ((some .boolean)) D (xtys cI cB cZ cQ) xord g Am) (O : xsO g cI cB cZ cQ Am aK aV) (X : gX D (xcell g cI cB cZ cQ) xord g S s H locs) (hl : lv_has ls 1 [(0, .ref (g 0))]) (hF : fX11_restore_b7 N S = some o) : W p l e (rmd 3) s m args below meth c H locs 0 0 (gE below args s D (xtys cI cB cZ cQ) (xcell g cI cB cZ cQ) xord g (some (.int o.1)) o.2) (F0 m 7 ls []) := by
  unfold fX11_restore_b7 at hF
  refine lv_aload_n C.1.1 C.1.2.1 dX11_restore_7 rfl (lv_at hl 0 rfl) ?_
  refine xg_X11_19 C O.1 X (k := 0) rfl (j := 20) rfl dX11_restore_8 ?_
  refine lv_aload_n C.1.1 C.1.2.1 dX11_restore_11 rfl (lv_at hl 0 rfl) ?_
  refine xg_X11_23 C O.1 X (k := 0) rfl (j := 33) rfl dX11_restore_12 ?_
  obtain ⟨q1, hq1, hF⟩ := bnd_some hF
  refine x_callV C X (k := 20) xv_X11_363 (rfl : xk 20 = 1) rfl rfl (by decide) (kX1_copy O C.2.2.2.2.1 N 20 33 (rfl : xk 20 = 1) (rfl : xk 33 = 1) S q1 hq1) (Nat.le_of_ble_eq_true rfl) (Nat.le_of_ble_eq_true rfl) (Nat.le_of_ble_eq_true rfl) (Nat.le_of_ble_eq_true rfl) rfl hl.1 rfl (Nat.le_of_ble_eq_true rfl) dX11_restore_15 (fun H locs X => ?_)
  exact bX11_restore_18 C O X (lv_sub hl [0] rfl) hF
noncomputable def fX11_restore_b0 (N : Nat) (S : gS) : Option (Int32 × gS) := if (S 0 8) = 0 then fX11_restore_b18 N S else fX11_restore_b7 N S
theorem bX11_restore_0 {N : Nat} {S : gS} {H : Heap} {locs : List Loc} {ls : Array Slot} {o : Int32 × gS} (C : gC p s m args meth c cX11_restore 1 RX11 ((some .boolean)) D (xtys cI cB cZ cQ) xord g Am) (O : xsO g cI cB cZ cQ Am aK aV) (X : gX D (xcell g cI cB cZ cQ) xord g S s H locs) (hl : lv_has ls 1 [(0, .ref (g 0))]) (hF : fX11_restore_b0 N S = some o) : W p l e (rmd 3) s m args below meth c H locs 0 0 (gE below args s D (xtys cI cB cZ cQ) (xcell g cI cB cZ cQ) xord g (some (.int o.1)) o.2) (F0 m 0 ls []) := by
  unfold fX11_restore_b0 at hF
  refine lv_aload_n C.1.1 C.1.2.1 dX11_restore_0 rfl (lv_at hl 0 rfl) ?_
  refine xg_X11_61 C O.1 X (k := 0) rfl dX11_restore_1 ?_
  refine lv_if_eq (tgt := 18) C.1.1 C.1.2.1 dX11_restore_4 (by decide) (fun h_z => ?_) (fun h_z => ?_)
  · rw [if_pos h_z] at hF
    exact bX11_restore_18 C O X (lv_sub hl [0] rfl) hF
  · rw [if_neg h_z] at hF
    exact bX11_restore_7 C O X (lv_sub hl [0] rfl) hF
noncomputable def fX11_restore (N : Nat) (S : gS) : Option (Int32 × gS) := fX11_restore_b0 N S
theorem kX11_restore {l : Launch} {D : va_G} {g : Nat → Nat} {cI cB cZ cQ : ClassId} {Am : (Nat → Prop) → State → Heap → Prop} {aK aV : Nat → Nat} (O : xsO g cI cB cZ cQ Am aK aV) (P : gAm Am) (N : Nat) (S : gS) (o : Int32 × gS) (hF : fX11_restore N S = some o) : gM l yX11_restore cX11_restore 1 ((some .boolean)) 3 D (xtys cI cB cZ cQ) (xcell g cI cB cZ cQ) xord g Am [.ref (g 0)] S (some (.int o.1)) o.2 :=
  gM_of O.1.1 P (by decide) (Nat.le_of_ble_eq_true rfl) (fun p e s m args below meth c ls C X hl => bX11_restore_0 C O X (lv_sub hl [0] rfl) hF)
-- X2.bestLook
noncomputable def fX2_bestLook_b43 (N : Nat) (x1 : Int32) (S : gS) : Option (Int32 × gS) := some (x1, S)
theorem bX2_bestLook_43 {N : Nat} {x1 : Int32} {S : gS} {H : Heap} {locs : List Loc} {ls : Array Slot} {o : Int32 × gS} (C : gC p s m args meth c cX2_bestLook 3 RX2 ((some .int)) D (xtys cI cB cZ cQ) xord g Am) (O : xsO g cI cB cZ cQ Am aK aV) (X : gX D (xcell g cI cB cZ cQ) xord g S s H locs) (hl : lv_has ls 3 [(1, .int x1)]) (hF : fX2_bestLook_b43 N x1 S = some o) : W p l e (rmd 2) s m args below meth c H locs 0 0 (gE below args s D (xtys cI cB cZ cQ) (xcell g cI cB cZ cQ) xord g (some (.int o.1)) o.2) (F0 m 43 ls []) := by
  unfold fX2_bestLook_b43 at hF
  refine lv_iload_n C.1.1 C.1.2.1 dX2_bestLook_43 rfl (lv_at hl 0 rfl) ?_
  cases hF
  exact g_iret C X dX2_bestLook_44
noncomputable def fX2_bestLook_b37 (N : Nat) (r4 : Int32 → Int32 → gS → Option (Int32 × gS)) (x1 : Int32) (x2 : Int32) (S : gS) : Option (Int32 × gS) := r4 x1 ((x2 + 1 : Int32)) S
theorem bX2_bestLook_37 {N : Nat} {r4 : Int32 → Int32 → gS → Option (Int32 × gS)} {x1 : Int32} {x2 : Int32} {S : gS} {H : Heap} {locs : List Loc} {ls : Array Slot} {o : Int32 × gS} (C : gC p s m args meth c cX2_bestLook 3 RX2 ((some .int)) D (xtys cI cB cZ cQ) xord g Am) (O : xsO g cI cB cZ cQ Am aK aV) (K4 : ∀ (x1 : Int32) (x2 : Int32) (S : gS) (H : Heap) (locs : List Loc) (ls : Array Slot), gX D (xcell g cI cB cZ cQ) xord g S s H locs → lv_has ls 3 [(0, .ref (g 62)), (1, .int x1), (2, .int x2)] → r4 x1 x2 S = some o → W p l e (rmd 2) s m args below meth c H locs 0 0 (gE below args s D (xtys cI cB cZ cQ) (xcell g cI cB cZ cQ) xord g (some (.int o.1)) o.2) (F0 m 4 ls [])) (X : gX D (xcell g cI cB cZ cQ) xord g S s H locs) (hl : lv_has ls 3 [(0, .ref (g 62)), (1, .int x1), (2, .int x2)]) (hF : fX2_bestLook_b37 N r4 x1 x2 S = some o) : W p l e (rmd 2) s m args below meth c H locs 0 0 (gE below args s D (xtys cI cB cZ cQ) (xcell g cI cB cZ cQ) xord g (some (.int o.1)) o.2) (F0 m 37 ls []) := by
  unfold fX2_bestLook_b37 at hF
  refine lv_iinc (v := (x2 + 1 : Int32)) (lv' := [(2, .int ((x2 + 1 : Int32))), (0, .ref (g 62)), (1, .int x1)]) C.1.1 C.1.2.1 dX2_bestLook_37 hl (k := 2) rfl rfl (by decide) rfl (fun ls hl => ?_)
  refine lv_goto (tgt := 4) C.1.1 C.1.2.1 dX2_bestLook_40 (by decide) ?_
  exact K4 _ _ _ _ _ _ X (lv_sub hl [1, 2, 0] rfl) hF
noncomputable def fX2_bestLook_b35 (N : Nat) (r4 : Int32 → Int32 → gS → Option (Int32 × gS)) (x2 : Int32) (S : gS) : Option (Int32 × gS) := fX2_bestLook_b37 N r4 x2 x2 S
theorem bX2_bestLook_35 {N : Nat} {r4 : Int32 → Int32 → gS → Option (Int32 × gS)} {x2 : Int32} {S : gS} {H : Heap} {locs : List Loc} {ls : Array Slot} {o : Int32 × gS} (C : gC p s m args meth c cX2_bestLook 3 RX2 ((some .int)) D (xtys cI cB cZ cQ) xord g Am) (O : xsO g cI cB cZ cQ Am aK aV) (K4 : ∀ (x1 : Int32) (x2 : Int32) (S : gS) (H : Heap) (locs : List Loc) (ls : Array Slot), gX D (xcell g cI cB cZ cQ) xord g S s H locs → lv_has ls 3 [(0, .ref (g 62)), (1, .int x1), (2, .int x2)] → r4 x1 x2 S = some o → W p l e (rmd 2) s m args below meth c H locs 0 0 (gE below args s D (xtys cI cB cZ cQ) (xcell g cI cB cZ cQ) xord g (some (.int o.1)) o.2) (F0 m 4 ls [])) (X : gX D (xcell g cI cB cZ cQ) xord g S s H locs) (hl : lv_has ls 3 [(0, .ref (g 62)), (2, .int x2)]) (hF : fX2_bestLook_b35 N r4 x2 S = some o) : W p l e (rmd 2) s m args below meth c H locs 0 0 (gE below args s D (xtys cI cB cZ cQ) (xcell g cI cB cZ cQ) xord g (some (.int o.1)) o.2) (F0 m 35 ls []) := by
  unfold fX2_bestLook_b35 at hF
  refine lv_iload_n C.1.1 C.1.2.1 dX2_bestLook_35 rfl (lv_at hl 1 rfl) ?_
  refine lv_istore_n (lv' := [(1, .int x2), (0, .ref (g 62)), (2, .int x2)]) C.1.1 C.1.2.1 dX2_bestLook_36 rfl hl (by decide) rfl (fun ls hl => ?_)
  exact bX2_bestLook_37 C O K4 X (lv_sub hl [1, 0, 2] rfl) hF
noncomputable def fX2_bestLook_b22 (N : Nat) (r4 : Int32 → Int32 → gS → Option (Int32 × gS)) (x1 : Int32) (x2 : Int32) (S : gS) : Option (Int32 × gS) := bnd (fX2_unlikeBehind N x2 S) fun q1 => (bnd (fX2_unlikeBehind N x1 q1.2) fun q2 => (if q1.1 ≤ q2.1 then fX2_bestLook_b37 N r4 x1 x2 q2.2 else fX2_bestLook_b35 N r4 x2 q2.2))
theorem bX2_bestLook_22 {N : Nat} {r4 : Int32 → Int32 → gS → Option (Int32 × gS)} {x1 : Int32} {x2 : Int32} {S : gS} {H : Heap} {locs : List Loc} {ls : Array Slot} {o : Int32 × gS} (C : gC p s m args meth c cX2_bestLook 3 RX2 ((some .int)) D (xtys cI cB cZ cQ) xord g Am) (O : xsO g cI cB cZ cQ Am aK aV) (K4 : ∀ (x1 : Int32) (x2 : Int32) (S : gS) (H : Heap) (locs : List Loc) (ls : Array Slot), gX D (xcell g cI cB cZ cQ) xord g S s H locs → lv_has ls 3 [(0, .ref (g 62)), (1, .int x1), (2, .int x2)] → r4 x1 x2 S = some o → W p l e (rmd 2) s m args below meth c H locs 0 0 (gE below args s D (xtys cI cB cZ cQ) (xcell g cI cB cZ cQ) xord g (some (.int o.1)) o.2) (F0 m 4 ls [])) (X : gX D (xcell g cI cB cZ cQ) xord g S s H locs) (hl : lv_has ls 3 [(0, .ref (g 62)), (1, .int x1), (2, .int x2)]) (hF : fX2_bestLook_b22 N r4 x1 x2 S = some o) : W p l e (rmd 2) s m args below meth c H locs 0 0 (gE below args s D (xtys cI cB cZ cQ) (xcell g cI cB cZ cQ) xord g (some (.int o.1)) o.2) (F0 m 22 ls []) := by
  unfold fX2_bestLook_b22 at hF
  refine lv_aload_n C.1.1 C.1.2.1 dX2_bestLook_22 rfl (lv_at hl 0 rfl) ?_
  refine lv_iload_n C.1.1 C.1.2.1 dX2_bestLook_23 rfl (lv_at hl 2 rfl) ?_
  obtain ⟨q1, hq1, hF⟩ := bnd_some hF
  refine x_callVi C X (k := 62) xv_X2_67 (rfl : xk 62 = 2) rfl rfl (by decide) (kX2_unlikeBehind O C.2.2.2.2.1 N x2 S q1 hq1) (Nat.le_of_ble_eq_true rfl) (Nat.le_of_ble_eq_true rfl) (Nat.le_of_ble_eq_true rfl) (Nat.le_of_ble_eq_true rfl) rfl hl.1 rfl (Nat.le_of_ble_eq_true rfl) dX2_bestLook_24 (fun H locs X => ?_)
  refine lv_aload_n C.1.1 C.1.2.1 dX2_bestLook_27 rfl (lv_at hl 0 rfl) ?_
  refine lv_iload_n C.1.1 C.1.2.1 dX2_bestLook_28 rfl (lv_at hl 1 rfl) ?_
  obtain ⟨q2, hq2, hF⟩ := bnd_some hF
  refine x_callVi C X (k := 62) xv_X2_67 (rfl : xk 62 = 2) rfl rfl (by decide) (kX2_unlikeBehind O C.2.2.2.2.1 N x1 q1.2 q2 hq2) (Nat.le_of_ble_eq_true rfl) (Nat.le_of_ble_eq_true rfl) (Nat.le_of_ble_eq_true rfl) (Nat.le_of_ble_eq_true rfl) rfl hl.1 rfl (Nat.le_of_ble_eq_true rfl) dX2_bestLook_29 (fun H locs X => ?_)
  refine lv_icmp_le (tgt := 37) C.1.1 C.1.2.1 dX2_bestLook_32 (by decide) (fun h_z => ?_) (fun h_z => ?_)
  · rw [if_pos h_z] at hF
    exact bX2_bestLook_37 C O K4 X (lv_sub hl [0, 1, 2] rfl) hF
  · rw [if_neg h_z] at hF
    exact bX2_bestLook_35 C O K4 X (lv_sub hl [0, 2] rfl) hF
noncomputable def fX2_bestLook_b17 (N : Nat) (r4 : Int32 → Int32 → gS → Option (Int32 × gS)) (x1 : Int32) (x2 : Int32) (S : gS) : Option (Int32 × gS) := if x1 = ((-1)) then fX2_bestLook_b35 N r4 x2 S else fX2_bestLook_b22 N r4 x1 x2 S
theorem bX2_bestLook_17 {N : Nat} {r4 : Int32 → Int32 → gS → Option (Int32 × gS)} {x1 : Int32} {x2 : Int32} {S : gS} {H : Heap} {locs : List Loc} {ls : Array Slot} {o : Int32 × gS} (C : gC p s m args meth c cX2_bestLook 3 RX2 ((some .int)) D (xtys cI cB cZ cQ) xord g Am) (O : xsO g cI cB cZ cQ Am aK aV) (K4 : ∀ (x1 : Int32) (x2 : Int32) (S : gS) (H : Heap) (locs : List Loc) (ls : Array Slot), gX D (xcell g cI cB cZ cQ) xord g S s H locs → lv_has ls 3 [(0, .ref (g 62)), (1, .int x1), (2, .int x2)] → r4 x1 x2 S = some o → W p l e (rmd 2) s m args below meth c H locs 0 0 (gE below args s D (xtys cI cB cZ cQ) (xcell g cI cB cZ cQ) xord g (some (.int o.1)) o.2) (F0 m 4 ls [])) (X : gX D (xcell g cI cB cZ cQ) xord g S s H locs) (hl : lv_has ls 3 [(0, .ref (g 62)), (1, .int x1), (2, .int x2)]) (hF : fX2_bestLook_b17 N r4 x1 x2 S = some o) : W p l e (rmd 2) s m args below meth c H locs 0 0 (gE below args s D (xtys cI cB cZ cQ) (xcell g cI cB cZ cQ) xord g (some (.int o.1)) o.2) (F0 m 17 ls []) := by
  unfold fX2_bestLook_b17 at hF
  refine lv_iload_n C.1.1 C.1.2.1 dX2_bestLook_17 rfl (lv_at hl 1 rfl) ?_
  refine lv_iconst (v := (-1)) C.1.1 C.1.2.1 dX2_bestLook_18 (by decide) ?_
  refine lv_icmp_eq (tgt := 35) C.1.1 C.1.2.1 dX2_bestLook_19 (by decide) (fun h_z => ?_) (fun h_z => ?_)
  · rw [if_pos h_z] at hF
    exact bX2_bestLook_35 C O K4 X (lv_sub hl [0, 2] rfl) hF
  · rw [if_neg h_z] at hF
    exact bX2_bestLook_22 C O K4 X (lv_sub hl [0, 1, 2] rfl) hF
noncomputable def fX2_bestLook_b10 (N : Nat) (r4 : Int32 → Int32 → gS → Option (Int32 × gS)) (x1 : Int32) (x2 : Int32) (S : gS) : Option (Int32 × gS) := if (S 62 3) ≤ 0 then fX2_bestLook_b43 N x1 S else fX2_bestLook_b17 N r4 x1 x2 S
theorem bX2_bestLook_10 {N : Nat} {r4 : Int32 → Int32 → gS → Option (Int32 × gS)} {x1 : Int32} {x2 : Int32} {S : gS} {H : Heap} {locs : List Loc} {ls : Array Slot} {o : Int32 × gS} (C : gC p s m args meth c cX2_bestLook 3 RX2 ((some .int)) D (xtys cI cB cZ cQ) xord g Am) (O : xsO g cI cB cZ cQ Am aK aV) (K4 : ∀ (x1 : Int32) (x2 : Int32) (S : gS) (H : Heap) (locs : List Loc) (ls : Array Slot), gX D (xcell g cI cB cZ cQ) xord g S s H locs → lv_has ls 3 [(0, .ref (g 62)), (1, .int x1), (2, .int x2)] → r4 x1 x2 S = some o → W p l e (rmd 2) s m args below meth c H locs 0 0 (gE below args s D (xtys cI cB cZ cQ) (xcell g cI cB cZ cQ) xord g (some (.int o.1)) o.2) (F0 m 4 ls [])) (X : gX D (xcell g cI cB cZ cQ) xord g S s H locs) (hl : lv_has ls 3 [(0, .ref (g 62)), (1, .int x1), (2, .int x2)]) (hF : fX2_bestLook_b10 N r4 x1 x2 S = some o) : W p l e (rmd 2) s m args below meth c H locs 0 0 (gE below args s D (xtys cI cB cZ cQ) (xcell g cI cB cZ cQ) xord g (some (.int o.1)) o.2) (F0 m 10 ls []) := by
  unfold fX2_bestLook_b10 at hF
  refine lv_aload_n C.1.1 C.1.2.1 dX2_bestLook_10 rfl (lv_at hl 0 rfl) ?_
  refine xg_X2_23 C O.1 X (k := 62) rfl dX2_bestLook_11 ?_
  refine lv_if_le (tgt := 43) C.1.1 C.1.2.1 dX2_bestLook_14 (by decide) (fun h_z => ?_) (fun h_z => ?_)
  · rw [if_pos h_z] at hF
    exact bX2_bestLook_43 C O X (lv_sub hl [1] rfl) hF
  · rw [if_neg h_z] at hF
    exact bX2_bestLook_17 C O K4 X (lv_sub hl [0, 1, 2] rfl) hF
noncomputable def fX2_bestLook_b4 (N : Nat) (r4 : Int32 → Int32 → gS → Option (Int32 × gS)) (x1 : Int32) (x2 : Int32) (S : gS) : Option (Int32 × gS) := if 20 < x2 then fX2_bestLook_b43 N x1 S else fX2_bestLook_b10 N r4 x1 x2 S
theorem bX2_bestLook_4 {N : Nat} {r4 : Int32 → Int32 → gS → Option (Int32 × gS)} {x1 : Int32} {x2 : Int32} {S : gS} {H : Heap} {locs : List Loc} {ls : Array Slot} {o : Int32 × gS} (C : gC p s m args meth c cX2_bestLook 3 RX2 ((some .int)) D (xtys cI cB cZ cQ) xord g Am) (O : xsO g cI cB cZ cQ Am aK aV) (K4 : ∀ (x1 : Int32) (x2 : Int32) (S : gS) (H : Heap) (locs : List Loc) (ls : Array Slot), gX D (xcell g cI cB cZ cQ) xord g S s H locs → lv_has ls 3 [(0, .ref (g 62)), (1, .int x1), (2, .int x2)] → r4 x1 x2 S = some o → W p l e (rmd 2) s m args below meth c H locs 0 0 (gE below args s D (xtys cI cB cZ cQ) (xcell g cI cB cZ cQ) xord g (some (.int o.1)) o.2) (F0 m 4 ls [])) (X : gX D (xcell g cI cB cZ cQ) xord g S s H locs) (hl : lv_has ls 3 [(0, .ref (g 62)), (1, .int x1), (2, .int x2)]) (hF : fX2_bestLook_b4 N r4 x1 x2 S = some o) : W p l e (rmd 2) s m args below meth c H locs 0 0 (gE below args s D (xtys cI cB cZ cQ) (xcell g cI cB cZ cQ) xord g (some (.int o.1)) o.2) (F0 m 4 ls []) := by
  unfold fX2_bestLook_b4 at hF
  refine lv_iload_n C.1.1 C.1.2.1 dX2_bestLook_4 rfl (lv_at hl 2 rfl) ?_
  refine lv_bipush (v := 20) C.1.1 C.1.2.1 dX2_bestLook_5 (by decide) ?_
  refine lv_icmp_gt (tgt := 43) C.1.1 C.1.2.1 dX2_bestLook_7 (by decide) (fun h_z => ?_) (fun h_z => ?_)
  · rw [if_pos h_z] at hF
    exact bX2_bestLook_43 C O X (lv_sub hl [1] rfl) hF
  · rw [if_neg h_z] at hF
    exact bX2_bestLook_10 C O K4 X (lv_sub hl [0, 1, 2] rfl) hF
noncomputable def fX2_bestLook_h4 (N : Nat) : Nat → Int32 → Int32 → gS → Option (Int32 × gS)
  | 0, _, _, _ => none
  | n + 1, x1, x2, S => fX2_bestLook_b4 N (fX2_bestLook_h4 N n) x1 x2 S
theorem hX2_bestLook_4 {N : Nat} {o : Int32 × gS} (C : gC p s m args meth c cX2_bestLook 3 RX2 ((some .int)) D (xtys cI cB cZ cQ) xord g Am) (O : xsO g cI cB cZ cQ Am aK aV) : ∀ (n : Nat) (x1 : Int32) (x2 : Int32) (S : gS) (H : Heap) (locs : List Loc) (ls : Array Slot), gX D (xcell g cI cB cZ cQ) xord g S s H locs → lv_has ls 3 [(0, .ref (g 62)), (1, .int x1), (2, .int x2)] → fX2_bestLook_h4 N n x1 x2 S = some o → W p l e (rmd 2) s m args below meth c H locs 0 0 (gE below args s D (xtys cI cB cZ cQ) (xcell g cI cB cZ cQ) xord g (some (.int o.1)) o.2) (F0 m 4 ls []) := by
  intro n
  induction n with
  | zero =>
    intro x1 x2 S H locs ls X hl hF
    exact absurd (show (none : Option (Int32 × gS)) = some o from hF) (by simp)
  | succ n ih =>
    intro x1 x2 S H locs ls X hl hF
    have hF : fX2_bestLook_b4 N (fX2_bestLook_h4 N n) x1 x2 S = some o := hF
    exact bX2_bestLook_4 C O ih X hl hF
noncomputable def fX2_bestLook_b0 (N : Nat) (S : gS) : Option (Int32 × gS) := fX2_bestLook_h4 N N ((-1)) 1 S
theorem bX2_bestLook_0 {N : Nat} {S : gS} {H : Heap} {locs : List Loc} {ls : Array Slot} {o : Int32 × gS} (C : gC p s m args meth c cX2_bestLook 3 RX2 ((some .int)) D (xtys cI cB cZ cQ) xord g Am) (O : xsO g cI cB cZ cQ Am aK aV) (X : gX D (xcell g cI cB cZ cQ) xord g S s H locs) (hl : lv_has ls 3 [(0, .ref (g 62))]) (hF : fX2_bestLook_b0 N S = some o) : W p l e (rmd 2) s m args below meth c H locs 0 0 (gE below args s D (xtys cI cB cZ cQ) (xcell g cI cB cZ cQ) xord g (some (.int o.1)) o.2) (F0 m 0 ls []) := by
  unfold fX2_bestLook_b0 at hF
  refine lv_iconst (v := (-1)) C.1.1 C.1.2.1 dX2_bestLook_0 (by decide) ?_
  refine lv_istore_n (lv' := [(1, .int ((-1))), (0, .ref (g 62))]) C.1.1 C.1.2.1 dX2_bestLook_1 rfl hl (by decide) rfl (fun ls hl => ?_)
  refine lv_iconst (v := 1) C.1.1 C.1.2.1 dX2_bestLook_2 (by decide) ?_
  refine lv_istore_n (lv' := [(2, .int 1), (1, .int ((-1))), (0, .ref (g 62))]) C.1.1 C.1.2.1 dX2_bestLook_3 rfl hl (by decide) rfl (fun ls hl => ?_)
  exact hX2_bestLook_4 C O N _ _ _ _ _ _ X (lv_sub hl [2, 1, 0] rfl) hF
noncomputable def fX2_bestLook (N : Nat) (S : gS) : Option (Int32 × gS) := fX2_bestLook_b0 N S
theorem kX2_bestLook {l : Launch} {D : va_G} {g : Nat → Nat} {cI cB cZ cQ : ClassId} {Am : (Nat → Prop) → State → Heap → Prop} {aK aV : Nat → Nat} (O : xsO g cI cB cZ cQ Am aK aV) (P : gAm Am) (N : Nat) (S : gS) (o : Int32 × gS) (hF : fX2_bestLook N S = some o) : gM l yX2_bestLook cX2_bestLook 3 ((some .int)) 2 D (xtys cI cB cZ cQ) (xcell g cI cB cZ cQ) xord g Am [.ref (g 62)] S (some (.int o.1)) o.2 :=
  gM_of O.1.1 P (by decide) (Nat.le_of_ble_eq_true rfl) (fun p e s m args below meth c ls C X hl => bX2_bestLook_0 C O X (lv_sub hl [0] rfl) hF)
-- X3.valueCode
noncomputable def fX3_valueCode_b122 (N : Nat) (t0 : Int32) (S : gS) : Option (Int32 × gS) := some (t0, S)
theorem bX3_valueCode_122 {N : Nat} {t0 : Int32} {S : gS} {H : Heap} {locs : List Loc} {ls : Array Slot} {o : Int32 × gS} (C : gC p s m args meth c cX3_valueCode 2 RX3 ((some .int)) D (xtys cI cB cZ cQ) xord g Am) (O : xsO g cI cB cZ cQ Am aK aV) (X : gX D (xcell g cI cB cZ cQ) xord g S s H locs) (hl : lv_has ls 2 []) (hF : fX3_valueCode_b122 N t0 S = some o) : W p l e (rmd 5) s m args below meth c H locs 0 0 (gE below args s D (xtys cI cB cZ cQ) (xcell g cI cB cZ cQ) xord g (some (.int o.1)) o.2) (F0 m 122 ls [.int t0]) := by
  unfold fX3_valueCode_b122 at hF
  cases hF
  exact g_iret C X dX3_valueCode_122
noncomputable def fX3_valueCode_b121 (N : Nat) (S : gS) : Option (Int32 × gS) := fX3_valueCode_b122 N ((-1)) S
theorem bX3_valueCode_121 {N : Nat} {S : gS} {H : Heap} {locs : List Loc} {ls : Array Slot} {o : Int32 × gS} (C : gC p s m args meth c cX3_valueCode 2 RX3 ((some .int)) D (xtys cI cB cZ cQ) xord g Am) (O : xsO g cI cB cZ cQ Am aK aV) (X : gX D (xcell g cI cB cZ cQ) xord g S s H locs) (hl : lv_has ls 2 []) (hF : fX3_valueCode_b121 N S = some o) : W p l e (rmd 5) s m args below meth c H locs 0 0 (gE below args s D (xtys cI cB cZ cQ) (xcell g cI cB cZ cQ) xord g (some (.int o.1)) o.2) (F0 m 121 ls []) := by
  unfold fX3_valueCode_b121 at hF
  refine lv_iconst (v := (-1)) C.1.1 C.1.2.1 dX3_valueCode_121 (by decide) ?_
  exact bX3_valueCode_122 C O X (lv_sub hl [] rfl) hF
noncomputable def fX3_valueCode_b115 (N : Nat) (S : gS) : Option (Int32 × gS) := fX3_valueCode_b122 N 10006 S
theorem bX3_valueCode_115 {N : Nat} {S : gS} {H : Heap} {locs : List Loc} {ls : Array Slot} {o : Int32 × gS} (C : gC p s m args meth c cX3_valueCode 2 RX3 ((some .int)) D (xtys cI cB cZ cQ) xord g Am) (O : xsO g cI cB cZ cQ Am aK aV) (X : gX D (xcell g cI cB cZ cQ) xord g S s H locs) (hl : lv_has ls 2 []) (hF : fX3_valueCode_b115 N S = some o) : W p l e (rmd 5) s m args below meth c H locs 0 0 (gE below args s D (xtys cI cB cZ cQ) (xcell g cI cB cZ cQ) xord g (some (.int o.1)) o.2) (F0 m 115 ls []) := by
  unfold fX3_valueCode_b115 at hF
  refine lv_sipush (v := 10006) C.1.1 C.1.2.1 dX3_valueCode_115 (by decide) ?_
  refine lv_goto (tgt := 122) C.1.1 C.1.2.1 dX3_valueCode_118 (by decide) ?_
  exact bX3_valueCode_122 C O X (lv_sub hl [] rfl) hF
noncomputable def fX3_valueCode_b103 (N : Nat) (S : gS) : Option (Int32 × gS) := bnd (fX8_isAtWord N 15 S) fun q1 => (if q1.1 = 0 then fX3_valueCode_b121 N q1.2 else fX3_valueCode_b115 N q1.2)
theorem bX3_valueCode_103 {N : Nat} {S : gS} {H : Heap} {locs : List Loc} {ls : Array Slot} {o : Int32 × gS} (C : gC p s m args meth c cX3_valueCode 2 RX3 ((some .int)) D (xtys cI cB cZ cQ) xord g Am) (O : xsO g cI cB cZ cQ Am aK aV) (X : gX D (xcell g cI cB cZ cQ) xord g S s H locs) (hl : lv_has ls 2 [(0, .ref (g 1))]) (hF : fX3_valueCode_b103 N S = some o) : W p l e (rmd 5) s m args below meth c H locs 0 0 (gE below args s D (xtys cI cB cZ cQ) (xcell g cI cB cZ cQ) xord g (some (.int o.1)) o.2) (F0 m 103 ls []) := by
  unfold fX3_valueCode_b103 at hF
  refine lv_aload_n C.1.1 C.1.2.1 dX3_valueCode_103 rfl (lv_at hl 0 rfl) ?_
  refine xg_X3_12 C O.1 X (k := 1) rfl (j := 2) rfl dX3_valueCode_104 ?_
  refine s_ldc C (xs_sO O) (i := 15) rfl dX3_valueCode_107 ?_
  obtain ⟨q1, hq1, hF⟩ := bnd_some hF
  refine x_callVi C X (k := 2) xv_X3_75 (rfl : xk 2 = 8) rfl rfl (by decide) (kX8_isAtWord O C.2.2.2.2.1 N 15 (rfl : sI 15 = true) S q1 hq1) (Nat.le_of_ble_eq_true rfl) (Nat.le_of_ble_eq_true rfl) (Nat.le_of_ble_eq_true rfl) (Nat.le_of_ble_eq_true rfl) rfl hl.1 rfl (Nat.le_of_ble_eq_true rfl) dX3_valueCode_109 (fun H locs X => ?_)
  refine lv_if_eq (tgt := 121) C.1.1 C.1.2.1 dX3_valueCode_112 (by decide) (fun h_z => ?_) (fun h_z => ?_)
  · rw [if_pos h_z] at hF
    exact bX3_valueCode_121 C O X (lv_sub hl [] rfl) hF
  · rw [if_neg h_z] at hF
    exact bX3_valueCode_115 C O X (lv_sub hl [] rfl) hF
noncomputable def fX3_valueCode_b96 (N : Nat) (k1 : Nat) (S : gS) : Option (Int32 × gS) := if (S k1 2) = 0 then fX3_valueCode_b121 N S else fX3_valueCode_b103 N S
theorem bX3_valueCode_96 {N : Nat} {k1 : Nat} {S : gS} {H : Heap} {locs : List Loc} {ls : Array Slot} {o : Int32 × gS} (C : gC p s m args meth c cX3_valueCode 2 RX3 ((some .int)) D (xtys cI cB cZ cQ) xord g Am) (O : xsO g cI cB cZ cQ Am aK aV) (hk_k1 : xk k1 = 4) (X : gX D (xcell g cI cB cZ cQ) xord g S s H locs) (hl : lv_has ls 2 [(0, .ref (g 1)), (1, .ref (g k1))]) (hF : fX3_valueCode_b96 N k1 S = some o) : W p l e (rmd 5) s m args below meth c H locs 0 0 (gE below args s D (xtys cI cB cZ cQ) (xcell g cI cB cZ cQ) xord g (some (.int o.1)) o.2) (F0 m 96 ls []) := by
  unfold fX3_valueCode_b96 at hF
  refine lv_aload_n C.1.1 C.1.2.1 dX3_valueCode_96 rfl (lv_at hl 1 rfl) ?_
  refine xg_X3_217 C O.1 X (k := k1) hk_k1 dX3_valueCode_97 ?_
  refine lv_if_eq (tgt := 121) C.1.1 C.1.2.1 dX3_valueCode_100 (by decide) (fun h_z => ?_) (fun h_z => ?_)
  · rw [if_pos h_z] at hF
    exact bX3_valueCode_121 C O X (lv_sub hl [] rfl) hF
  · rw [if_neg h_z] at hF
    exact bX3_valueCode_103 C O X (lv_sub hl [0] rfl) hF
noncomputable def fX3_valueCode_b92 (N : Nat) (S : gS) : Option (Int32 × gS) := some (10005, S)
theorem bX3_valueCode_92 {N : Nat} {S : gS} {H : Heap} {locs : List Loc} {ls : Array Slot} {o : Int32 × gS} (C : gC p s m args meth c cX3_valueCode 2 RX3 ((some .int)) D (xtys cI cB cZ cQ) xord g Am) (O : xsO g cI cB cZ cQ Am aK aV) (X : gX D (xcell g cI cB cZ cQ) xord g S s H locs) (hl : lv_has ls 2 []) (hF : fX3_valueCode_b92 N S = some o) : W p l e (rmd 5) s m args below meth c H locs 0 0 (gE below args s D (xtys cI cB cZ cQ) (xcell g cI cB cZ cQ) xord g (some (.int o.1)) o.2) (F0 m 92 ls []) := by
  unfold fX3_valueCode_b92 at hF
  refine lv_sipush (v := 10005) C.1.1 C.1.2.1 dX3_valueCode_92 (by decide) ?_
  cases hF
  exact g_iret C X dX3_valueCode_95
noncomputable def fX3_valueCode_b80 (N : Nat) (k1 : Nat) (S : gS) : Option (Int32 × gS) := bnd (fX8_isAtWord N 14 S) fun q1 => (if q1.1 = 0 then fX3_valueCode_b96 N k1 q1.2 else fX3_valueCode_b92 N q1.2)
theorem bX3_valueCode_80 {N : Nat} {k1 : Nat} {S : gS} {H : Heap} {locs : List Loc} {ls : Array Slot} {o : Int32 × gS} (C : gC p s m args meth c cX3_valueCode 2 RX3 ((some .int)) D (xtys cI cB cZ cQ) xord g Am) (O : xsO g cI cB cZ cQ Am aK aV) (hk_k1 : xk k1 = 4) (X : gX D (xcell g cI cB cZ cQ) xord g S s H locs) (hl : lv_has ls 2 [(0, .ref (g 1)), (1, .ref (g k1))]) (hF : fX3_valueCode_b80 N k1 S = some o) : W p l e (rmd 5) s m args below meth c H locs 0 0 (gE below args s D (xtys cI cB cZ cQ) (xcell g cI cB cZ cQ) xord g (some (.int o.1)) o.2) (F0 m 80 ls []) := by
  unfold fX3_valueCode_b80 at hF
  refine lv_aload_n C.1.1 C.1.2.1 dX3_valueCode_80 rfl (lv_at hl 0 rfl) ?_
  refine xg_X3_12 C O.1 X (k := 1) rfl (j := 2) rfl dX3_valueCode_81 ?_
  refine s_ldc C (xs_sO O) (i := 14) rfl dX3_valueCode_84 ?_
  obtain ⟨q1, hq1, hF⟩ := bnd_some hF
  refine x_callVi C X (k := 2) xv_X3_75 (rfl : xk 2 = 8) rfl rfl (by decide) (kX8_isAtWord O C.2.2.2.2.1 N 14 (rfl : sI 14 = true) S q1 hq1) (Nat.le_of_ble_eq_true rfl) (Nat.le_of_ble_eq_true rfl) (Nat.le_of_ble_eq_true rfl) (Nat.le_of_ble_eq_true rfl) rfl hl.1 rfl (Nat.le_of_ble_eq_true rfl) dX3_valueCode_86 (fun H locs X => ?_)
  refine lv_if_eq (tgt := 96) C.1.1 C.1.2.1 dX3_valueCode_89 (by decide) (fun h_z => ?_) (fun h_z => ?_)
  · rw [if_pos h_z] at hF
    exact bX3_valueCode_96 C O (hk_k1 : xk k1 = 4) X (lv_sub hl [0, 1] rfl) hF
  · rw [if_neg h_z] at hF
    exact bX3_valueCode_92 C O X (lv_sub hl [] rfl) hF
noncomputable def fX3_valueCode_b76 (N : Nat) (S : gS) : Option (Int32 × gS) := some (10004, S)
theorem bX3_valueCode_76 {N : Nat} {S : gS} {H : Heap} {locs : List Loc} {ls : Array Slot} {o : Int32 × gS} (C : gC p s m args meth c cX3_valueCode 2 RX3 ((some .int)) D (xtys cI cB cZ cQ) xord g Am) (O : xsO g cI cB cZ cQ Am aK aV) (X : gX D (xcell g cI cB cZ cQ) xord g S s H locs) (hl : lv_has ls 2 []) (hF : fX3_valueCode_b76 N S = some o) : W p l e (rmd 5) s m args below meth c H locs 0 0 (gE below args s D (xtys cI cB cZ cQ) (xcell g cI cB cZ cQ) xord g (some (.int o.1)) o.2) (F0 m 76 ls []) := by
  unfold fX3_valueCode_b76 at hF
  refine lv_sipush (v := 10004) C.1.1 C.1.2.1 dX3_valueCode_76 (by decide) ?_
  cases hF
  exact g_iret C X dX3_valueCode_79
noncomputable def fX3_valueCode_b64 (N : Nat) (k1 : Nat) (S : gS) : Option (Int32 × gS) := bnd (fX8_isAtWord N 6 S) fun q1 => (if q1.1 = 0 then fX3_valueCode_b80 N k1 q1.2 else fX3_valueCode_b76 N q1.2)
theorem bX3_valueCode_64 {N : Nat} {k1 : Nat} {S : gS} {H : Heap} {locs : List Loc} {ls : Array Slot} {o : Int32 × gS} (C : gC p s m args meth c cX3_valueCode 2 RX3 ((some .int)) D (xtys cI cB cZ cQ) xord g Am) (O : xsO g cI cB cZ cQ Am aK aV) (hk_k1 : xk k1 = 4) (X : gX D (xcell g cI cB cZ cQ) xord g S s H locs) (hl : lv_has ls 2 [(0, .ref (g 1)), (1, .ref (g k1))]) (hF : fX3_valueCode_b64 N k1 S = some o) : W p l e (rmd 5) s m args below meth c H locs 0 0 (gE below args s D (xtys cI cB cZ cQ) (xcell g cI cB cZ cQ) xord g (some (.int o.1)) o.2) (F0 m 64 ls []) := by
  unfold fX3_valueCode_b64 at hF
  refine lv_aload_n C.1.1 C.1.2.1 dX3_valueCode_64 rfl (lv_at hl 0 rfl) ?_
  refine xg_X3_12 C O.1 X (k := 1) rfl (j := 2) rfl dX3_valueCode_65 ?_
  refine s_ldc C (xs_sO O) (i := 6) rfl dX3_valueCode_68 ?_
  obtain ⟨q1, hq1, hF⟩ := bnd_some hF
  refine x_callVi C X (k := 2) xv_X3_75 (rfl : xk 2 = 8) rfl rfl (by decide) (kX8_isAtWord O C.2.2.2.2.1 N 6 (rfl : sI 6 = true) S q1 hq1) (Nat.le_of_ble_eq_true rfl) (Nat.le_of_ble_eq_true rfl) (Nat.le_of_ble_eq_true rfl) (Nat.le_of_ble_eq_true rfl) rfl hl.1 rfl (Nat.le_of_ble_eq_true rfl) dX3_valueCode_70 (fun H locs X => ?_)
  refine lv_if_eq (tgt := 80) C.1.1 C.1.2.1 dX3_valueCode_73 (by decide) (fun h_z => ?_) (fun h_z => ?_)
  · rw [if_pos h_z] at hF
    exact bX3_valueCode_80 C O (hk_k1 : xk k1 = 4) X (lv_sub hl [0, 1] rfl) hF
  · rw [if_neg h_z] at hF
    exact bX3_valueCode_76 C O X (lv_sub hl [] rfl) hF
noncomputable def fX3_valueCode_b60 (N : Nat) (S : gS) : Option (Int32 × gS) := some (10003, S)
theorem bX3_valueCode_60 {N : Nat} {S : gS} {H : Heap} {locs : List Loc} {ls : Array Slot} {o : Int32 × gS} (C : gC p s m args meth c cX3_valueCode 2 RX3 ((some .int)) D (xtys cI cB cZ cQ) xord g Am) (O : xsO g cI cB cZ cQ Am aK aV) (X : gX D (xcell g cI cB cZ cQ) xord g S s H locs) (hl : lv_has ls 2 []) (hF : fX3_valueCode_b60 N S = some o) : W p l e (rmd 5) s m args below meth c H locs 0 0 (gE below args s D (xtys cI cB cZ cQ) (xcell g cI cB cZ cQ) xord g (some (.int o.1)) o.2) (F0 m 60 ls []) := by
  unfold fX3_valueCode_b60 at hF
  refine lv_sipush (v := 10003) C.1.1 C.1.2.1 dX3_valueCode_60 (by decide) ?_
  cases hF
  exact g_iret C X dX3_valueCode_63
noncomputable def fX3_valueCode_b48 (N : Nat) (k1 : Nat) (S : gS) : Option (Int32 × gS) := bnd (fX8_isAtWord N 13 S) fun q1 => (if q1.1 = 0 then fX3_valueCode_b64 N k1 q1.2 else fX3_valueCode_b60 N q1.2)
theorem bX3_valueCode_48 {N : Nat} {k1 : Nat} {S : gS} {H : Heap} {locs : List Loc} {ls : Array Slot} {o : Int32 × gS} (C : gC p s m args meth c cX3_valueCode 2 RX3 ((some .int)) D (xtys cI cB cZ cQ) xord g Am) (O : xsO g cI cB cZ cQ Am aK aV) (hk_k1 : xk k1 = 4) (X : gX D (xcell g cI cB cZ cQ) xord g S s H locs) (hl : lv_has ls 2 [(0, .ref (g 1)), (1, .ref (g k1))]) (hF : fX3_valueCode_b48 N k1 S = some o) : W p l e (rmd 5) s m args below meth c H locs 0 0 (gE below args s D (xtys cI cB cZ cQ) (xcell g cI cB cZ cQ) xord g (some (.int o.1)) o.2) (F0 m 48 ls []) := by
  unfold fX3_valueCode_b48 at hF
  refine lv_aload_n C.1.1 C.1.2.1 dX3_valueCode_48 rfl (lv_at hl 0 rfl) ?_
  refine xg_X3_12 C O.1 X (k := 1) rfl (j := 2) rfl dX3_valueCode_49 ?_
  refine s_ldc C (xs_sO O) (i := 13) rfl dX3_valueCode_52 ?_
  obtain ⟨q1, hq1, hF⟩ := bnd_some hF
  refine x_callVi C X (k := 2) xv_X3_75 (rfl : xk 2 = 8) rfl rfl (by decide) (kX8_isAtWord O C.2.2.2.2.1 N 13 (rfl : sI 13 = true) S q1 hq1) (Nat.le_of_ble_eq_true rfl) (Nat.le_of_ble_eq_true rfl) (Nat.le_of_ble_eq_true rfl) (Nat.le_of_ble_eq_true rfl) rfl hl.1 rfl (Nat.le_of_ble_eq_true rfl) dX3_valueCode_54 (fun H locs X => ?_)
  refine lv_if_eq (tgt := 64) C.1.1 C.1.2.1 dX3_valueCode_57 (by decide) (fun h_z => ?_) (fun h_z => ?_)
  · rw [if_pos h_z] at hF
    exact bX3_valueCode_64 C O (hk_k1 : xk k1 = 4) X (lv_sub hl [0, 1] rfl) hF
  · rw [if_neg h_z] at hF
    exact bX3_valueCode_60 C O X (lv_sub hl [] rfl) hF
noncomputable def fX3_valueCode_b44 (N : Nat) (S : gS) : Option (Int32 × gS) := some (10002, S)
theorem bX3_valueCode_44 {N : Nat} {S : gS} {H : Heap} {locs : List Loc} {ls : Array Slot} {o : Int32 × gS} (C : gC p s m args meth c cX3_valueCode 2 RX3 ((some .int)) D (xtys cI cB cZ cQ) xord g Am) (O : xsO g cI cB cZ cQ Am aK aV) (X : gX D (xcell g cI cB cZ cQ) xord g S s H locs) (hl : lv_has ls 2 []) (hF : fX3_valueCode_b44 N S = some o) : W p l e (rmd 5) s m args below meth c H locs 0 0 (gE below args s D (xtys cI cB cZ cQ) (xcell g cI cB cZ cQ) xord g (some (.int o.1)) o.2) (F0 m 44 ls []) := by
  unfold fX3_valueCode_b44 at hF
  refine lv_sipush (v := 10002) C.1.1 C.1.2.1 dX3_valueCode_44 (by decide) ?_
  cases hF
  exact g_iret C X dX3_valueCode_47
noncomputable def fX3_valueCode_b32 (N : Nat) (k1 : Nat) (S : gS) : Option (Int32 × gS) := bnd (fX8_isAtWord N 12 S) fun q1 => (if q1.1 = 0 then fX3_valueCode_b48 N k1 q1.2 else fX3_valueCode_b44 N q1.2)
theorem bX3_valueCode_32 {N : Nat} {k1 : Nat} {S : gS} {H : Heap} {locs : List Loc} {ls : Array Slot} {o : Int32 × gS} (C : gC p s m args meth c cX3_valueCode 2 RX3 ((some .int)) D (xtys cI cB cZ cQ) xord g Am) (O : xsO g cI cB cZ cQ Am aK aV) (hk_k1 : xk k1 = 4) (X : gX D (xcell g cI cB cZ cQ) xord g S s H locs) (hl : lv_has ls 2 [(0, .ref (g 1)), (1, .ref (g k1))]) (hF : fX3_valueCode_b32 N k1 S = some o) : W p l e (rmd 5) s m args below meth c H locs 0 0 (gE below args s D (xtys cI cB cZ cQ) (xcell g cI cB cZ cQ) xord g (some (.int o.1)) o.2) (F0 m 32 ls []) := by
  unfold fX3_valueCode_b32 at hF
  refine lv_aload_n C.1.1 C.1.2.1 dX3_valueCode_32 rfl (lv_at hl 0 rfl) ?_
  refine xg_X3_12 C O.1 X (k := 1) rfl (j := 2) rfl dX3_valueCode_33 ?_
  refine s_ldc C (xs_sO O) (i := 12) rfl dX3_valueCode_36 ?_
  obtain ⟨q1, hq1, hF⟩ := bnd_some hF
  refine x_callVi C X (k := 2) xv_X3_75 (rfl : xk 2 = 8) rfl rfl (by decide) (kX8_isAtWord O C.2.2.2.2.1 N 12 (rfl : sI 12 = true) S q1 hq1) (Nat.le_of_ble_eq_true rfl) (Nat.le_of_ble_eq_true rfl) (Nat.le_of_ble_eq_true rfl) (Nat.le_of_ble_eq_true rfl) rfl hl.1 rfl (Nat.le_of_ble_eq_true rfl) dX3_valueCode_38 (fun H locs X => ?_)
  refine lv_if_eq (tgt := 48) C.1.1 C.1.2.1 dX3_valueCode_41 (by decide) (fun h_z => ?_) (fun h_z => ?_)
  · rw [if_pos h_z] at hF
    exact bX3_valueCode_48 C O (hk_k1 : xk k1 = 4) X (lv_sub hl [0, 1] rfl) hF
  · rw [if_neg h_z] at hF
    exact bX3_valueCode_44 C O X (lv_sub hl [] rfl) hF
noncomputable def fX3_valueCode_b28 (N : Nat) (S : gS) : Option (Int32 × gS) := some (10001, S)
theorem bX3_valueCode_28 {N : Nat} {S : gS} {H : Heap} {locs : List Loc} {ls : Array Slot} {o : Int32 × gS} (C : gC p s m args meth c cX3_valueCode 2 RX3 ((some .int)) D (xtys cI cB cZ cQ) xord g Am) (O : xsO g cI cB cZ cQ Am aK aV) (X : gX D (xcell g cI cB cZ cQ) xord g S s H locs) (hl : lv_has ls 2 []) (hF : fX3_valueCode_b28 N S = some o) : W p l e (rmd 5) s m args below meth c H locs 0 0 (gE below args s D (xtys cI cB cZ cQ) (xcell g cI cB cZ cQ) xord g (some (.int o.1)) o.2) (F0 m 28 ls []) := by
  unfold fX3_valueCode_b28 at hF
  refine lv_sipush (v := 10001) C.1.1 C.1.2.1 dX3_valueCode_28 (by decide) ?_
  cases hF
  exact g_iret C X dX3_valueCode_31
noncomputable def fX3_valueCode_b16 (N : Nat) (k1 : Nat) (S : gS) : Option (Int32 × gS) := bnd (fX8_isAtWord N 11 S) fun q1 => (if q1.1 = 0 then fX3_valueCode_b32 N k1 q1.2 else fX3_valueCode_b28 N q1.2)
theorem bX3_valueCode_16 {N : Nat} {k1 : Nat} {S : gS} {H : Heap} {locs : List Loc} {ls : Array Slot} {o : Int32 × gS} (C : gC p s m args meth c cX3_valueCode 2 RX3 ((some .int)) D (xtys cI cB cZ cQ) xord g Am) (O : xsO g cI cB cZ cQ Am aK aV) (hk_k1 : xk k1 = 4) (X : gX D (xcell g cI cB cZ cQ) xord g S s H locs) (hl : lv_has ls 2 [(0, .ref (g 1)), (1, .ref (g k1))]) (hF : fX3_valueCode_b16 N k1 S = some o) : W p l e (rmd 5) s m args below meth c H locs 0 0 (gE below args s D (xtys cI cB cZ cQ) (xcell g cI cB cZ cQ) xord g (some (.int o.1)) o.2) (F0 m 16 ls []) := by
  unfold fX3_valueCode_b16 at hF
  refine lv_aload_n C.1.1 C.1.2.1 dX3_valueCode_16 rfl (lv_at hl 0 rfl) ?_
  refine xg_X3_12 C O.1 X (k := 1) rfl (j := 2) rfl dX3_valueCode_17 ?_
  refine s_ldc C (xs_sO O) (i := 11) rfl dX3_valueCode_20 ?_
  obtain ⟨q1, hq1, hF⟩ := bnd_some hF
  refine x_callVi C X (k := 2) xv_X3_75 (rfl : xk 2 = 8) rfl rfl (by decide) (kX8_isAtWord O C.2.2.2.2.1 N 11 (rfl : sI 11 = true) S q1 hq1) (Nat.le_of_ble_eq_true rfl) (Nat.le_of_ble_eq_true rfl) (Nat.le_of_ble_eq_true rfl) (Nat.le_of_ble_eq_true rfl) rfl hl.1 rfl (Nat.le_of_ble_eq_true rfl) dX3_valueCode_22 (fun H locs X => ?_)
  refine lv_if_eq (tgt := 32) C.1.1 C.1.2.1 dX3_valueCode_25 (by decide) (fun h_z => ?_) (fun h_z => ?_)
  · rw [if_pos h_z] at hF
    exact bX3_valueCode_32 C O (hk_k1 : xk k1 = 4) X (lv_sub hl [0, 1] rfl) hF
  · rw [if_neg h_z] at hF
    exact bX3_valueCode_28 C O X (lv_sub hl [] rfl) hF
noncomputable def fX3_valueCode_b12 (N : Nat) (S : gS) : Option (Int32 × gS) := some (10000, S)
theorem bX3_valueCode_12 {N : Nat} {S : gS} {H : Heap} {locs : List Loc} {ls : Array Slot} {o : Int32 × gS} (C : gC p s m args meth c cX3_valueCode 2 RX3 ((some .int)) D (xtys cI cB cZ cQ) xord g Am) (O : xsO g cI cB cZ cQ Am aK aV) (X : gX D (xcell g cI cB cZ cQ) xord g S s H locs) (hl : lv_has ls 2 []) (hF : fX3_valueCode_b12 N S = some o) : W p l e (rmd 5) s m args below meth c H locs 0 0 (gE below args s D (xtys cI cB cZ cQ) (xcell g cI cB cZ cQ) xord g (some (.int o.1)) o.2) (F0 m 12 ls []) := by
  unfold fX3_valueCode_b12 at hF
  refine lv_sipush (v := 10000) C.1.1 C.1.2.1 dX3_valueCode_12 (by decide) ?_
  cases hF
  exact g_iret C X dX3_valueCode_15
noncomputable def fX3_valueCode_b0 (N : Nat) (k1 : Nat) (S : gS) : Option (Int32 × gS) := bnd (fX8_isAtWord N 10 S) fun q1 => (if q1.1 = 0 then fX3_valueCode_b16 N k1 q1.2 else fX3_valueCode_b12 N q1.2)
theorem bX3_valueCode_0 {N : Nat} {k1 : Nat} {S : gS} {H : Heap} {locs : List Loc} {ls : Array Slot} {o : Int32 × gS} (C : gC p s m args meth c cX3_valueCode 2 RX3 ((some .int)) D (xtys cI cB cZ cQ) xord g Am) (O : xsO g cI cB cZ cQ Am aK aV) (hk_k1 : xk k1 = 4) (X : gX D (xcell g cI cB cZ cQ) xord g S s H locs) (hl : lv_has ls 2 [(0, .ref (g 1)), (1, .ref (g k1))]) (hF : fX3_valueCode_b0 N k1 S = some o) : W p l e (rmd 5) s m args below meth c H locs 0 0 (gE below args s D (xtys cI cB cZ cQ) (xcell g cI cB cZ cQ) xord g (some (.int o.1)) o.2) (F0 m 0 ls []) := by
  unfold fX3_valueCode_b0 at hF
  refine lv_aload_n C.1.1 C.1.2.1 dX3_valueCode_0 rfl (lv_at hl 0 rfl) ?_
  refine xg_X3_12 C O.1 X (k := 1) rfl (j := 2) rfl dX3_valueCode_1 ?_
  refine s_ldc C (xs_sO O) (i := 10) rfl dX3_valueCode_4 ?_
  obtain ⟨q1, hq1, hF⟩ := bnd_some hF
  refine x_callVi C X (k := 2) xv_X3_75 (rfl : xk 2 = 8) rfl rfl (by decide) (kX8_isAtWord O C.2.2.2.2.1 N 10 (rfl : sI 10 = true) S q1 hq1) (Nat.le_of_ble_eq_true rfl) (Nat.le_of_ble_eq_true rfl) (Nat.le_of_ble_eq_true rfl) (Nat.le_of_ble_eq_true rfl) rfl hl.1 rfl (Nat.le_of_ble_eq_true rfl) dX3_valueCode_6 (fun H locs X => ?_)
  refine lv_if_eq (tgt := 16) C.1.1 C.1.2.1 dX3_valueCode_9 (by decide) (fun h_z => ?_) (fun h_z => ?_)
  · rw [if_pos h_z] at hF
    exact bX3_valueCode_16 C O (hk_k1 : xk k1 = 4) X (lv_sub hl [0, 1] rfl) hF
  · rw [if_neg h_z] at hF
    exact bX3_valueCode_12 C O X (lv_sub hl [] rfl) hF
noncomputable def fX3_valueCode (N : Nat) (k1 : Nat) (S : gS) : Option (Int32 × gS) := fX3_valueCode_b0 N k1 S
theorem kX3_valueCode {l : Launch} {D : va_G} {g : Nat → Nat} {cI cB cZ cQ : ClassId} {Am : (Nat → Prop) → State → Heap → Prop} {aK aV : Nat → Nat} (O : xsO g cI cB cZ cQ Am aK aV) (P : gAm Am) (N : Nat) (k1 : Nat) (hk_k1 : xk k1 = 4) (S : gS) (o : Int32 × gS) (hF : fX3_valueCode N k1 S = some o) : gM l yX3_valueCode cX3_valueCode 2 ((some .int)) 5 D (xtys cI cB cZ cQ) (xcell g cI cB cZ cQ) xord g Am [.ref (g 1), .ref (g k1)] S (some (.int o.1)) o.2 :=
  gM_of O.1.1 P (by decide) (Nat.le_of_ble_eq_true rfl) (fun p e s m args below meth c ls C X hl => bX3_valueCode_0 C O hk_k1 X (lv_sub hl [0, 1] rfl) hF)
-- X8.advance
noncomputable def fX8_advance_b210 (N : Nat) (S : gS) : Option (Int32 × gS) := some (0, S)
theorem bX8_advance_210 {N : Nat} {S : gS} {H : Heap} {locs : List Loc} {ls : Array Slot} {o : Int32 × gS} (C : gC p s m args meth c cX8_advance 2 RX8 none D (xtys cI cB cZ cQ) xord g Am) (O : xsO g cI cB cZ cQ Am aK aV) (X : gX D (xcell g cI cB cZ cQ) xord g S s H locs) (hl : lv_has ls 2 []) (hF : fX8_advance_b210 N S = some o) : W p l e (rmd 5) s m args below meth c H locs 0 0 (gE below args s D (xtys cI cB cZ cQ) (xcell g cI cB cZ cQ) xord g none o.2) (F0 m 210 ls []) := by
  unfold fX8_advance_b210 at hF
  cases hF
  exact g_vret C X dX8_advance_210
noncomputable def fX8_advance_b203 (N : Nat) (S : gS) : Option (Int32 × gS) := lt (sU S 2 6 10000) fun S1 => (fX8_advance_b210 N S1)
theorem bX8_advance_203 {N : Nat} {S : gS} {H : Heap} {locs : List Loc} {ls : Array Slot} {o : Int32 × gS} (C : gC p s m args meth c cX8_advance 2 RX8 none D (xtys cI cB cZ cQ) xord g Am) (O : xsO g cI cB cZ cQ Am aK aV) (X : gX D (xcell g cI cB cZ cQ) xord g S s H locs) (hl : lv_has ls 2 [(0, .ref (g 2))]) (hF : fX8_advance_b203 N S = some o) : W p l e (rmd 5) s m args below meth c H locs 0 0 (gE below args s D (xtys cI cB cZ cQ) (xcell g cI cB cZ cQ) xord g none o.2) (F0 m 203 ls []) := by
  unfold fX8_advance_b203 at hF
  refine lv_aload_n C.1.1 C.1.2.1 dX8_advance_203 rfl (lv_at hl 0 rfl) ?_
  refine lv_sipush (v := 10000) C.1.1 C.1.2.1 dX8_advance_204 (by decide) ?_
  obtain ⟨S1, eS1, hF⟩ := lt_some hF
  refine xp_X8_31 C O.1 X (k := 2) rfl eS1 dX8_advance_207 (fun H locs X => ?_)
  exact bX8_advance_210 C O X (lv_sub hl [] rfl) hF
noncomputable def fX8_advance_b190 (N : Nat) (S : gS) : Option (Int32 × gS) := if (((S 2 3) - (S 2 5) : Int32)) ≤ 4 then fX8_advance_b210 N S else fX8_advance_b203 N S
theorem bX8_advance_190 {N : Nat} {S : gS} {H : Heap} {locs : List Loc} {ls : Array Slot} {o : Int32 × gS} (C : gC p s m args meth c cX8_advance 2 RX8 none D (xtys cI cB cZ cQ) xord g Am) (O : xsO g cI cB cZ cQ Am aK aV) (X : gX D (xcell g cI cB cZ cQ) xord g S s H locs) (hl : lv_has ls 2 [(0, .ref (g 2))]) (hF : fX8_advance_b190 N S = some o) : W p l e (rmd 5) s m args below meth c H locs 0 0 (gE below args s D (xtys cI cB cZ cQ) (xcell g cI cB cZ cQ) xord g none o.2) (F0 m 190 ls []) := by
  unfold fX8_advance_b190 at hF
  refine lv_aload_n C.1.1 C.1.2.1 dX8_advance_190 rfl (lv_at hl 0 rfl) ?_
  refine xg_X8_22 C O.1 X (k := 2) rfl dX8_advance_191 ?_
  refine lv_aload_n C.1.1 C.1.2.1 dX8_advance_194 rfl (lv_at hl 0 rfl) ?_
  refine xg_X8_28 C O.1 X (k := 2) rfl dX8_advance_195 ?_
  refine lv_isub C.1.1 C.1.2.1 dX8_advance_198 ?_
  refine lv_iconst (v := 4) C.1.1 C.1.2.1 dX8_advance_199 (by decide) ?_
  refine lv_icmp_le (tgt := 210) C.1.1 C.1.2.1 dX8_advance_200 (by decide) (fun h_z => ?_) (fun h_z => ?_)
  · rw [if_pos h_z] at hF
    exact bX8_advance_210 C O X (lv_sub hl [] rfl) hF
  · rw [if_neg h_z] at hF
    exact bX8_advance_203 C O X (lv_sub hl [0] rfl) hF
noncomputable def fX8_advance_b148 (N : Nat) (r104 : Int32 → gS → Option (Int32 × gS)) (x1 : Int32) (S : gS) : Option (Int32 × gS) := bnd (fX8_at N (S 2 3) S) fun q1 => (lt (sU q1.2 2 6 (((((((if (S 2 6) < 9999 then (S 2 6) else 9999) * 10 : Int32)) + q1.1 : Int32)) - 48 : Int32))) fun S1 => (lt (sU S1 2 3 (((S1 2 3) + 1 : Int32))) fun S2 => (r104 x1 S2)))
theorem bX8_advance_148 {N : Nat} {r104 : Int32 → gS → Option (Int32 × gS)} {x1 : Int32} {S : gS} {H : Heap} {locs : List Loc} {ls : Array Slot} {o : Int32 × gS} (C : gC p s m args meth c cX8_advance 2 RX8 none D (xtys cI cB cZ cQ) xord g Am) (O : xsO g cI cB cZ cQ Am aK aV) (K104 : ∀ (x1 : Int32) (S : gS) (H : Heap) (locs : List Loc) (ls : Array Slot), gX D (xcell g cI cB cZ cQ) xord g S s H locs → lv_has ls 2 [(0, .ref (g 2)), (1, .int x1)] → r104 x1 S = some o → W p l e (rmd 5) s m args below meth c H locs 0 0 (gE below args s D (xtys cI cB cZ cQ) (xcell g cI cB cZ cQ) xord g none o.2) (F0 m 104 ls [])) (X : gX D (xcell g cI cB cZ cQ) xord g S s H locs) (hl : lv_has ls 2 [(0, .ref (g 2)), (1, .int x1)]) (hF : fX8_advance_b148 N r104 x1 S = some o) : W p l e (rmd 5) s m args below meth c H locs 0 0 (gE below args s D (xtys cI cB cZ cQ) (xcell g cI cB cZ cQ) xord g none o.2) (F0 m 148 ls []) := by
  unfold fX8_advance_b148 at hF
  refine lv_aload_n C.1.1 C.1.2.1 dX8_advance_148 rfl (lv_at hl 0 rfl) ?_
  refine lv_sipush (v := 9999) C.1.1 C.1.2.1 dX8_advance_149 (by decide) ?_
  refine lv_aload_n C.1.1 C.1.2.1 dX8_advance_152 rfl (lv_at hl 0 rfl) ?_
  refine xg_X8_31 C O.1 X (k := 2) rfl dX8_advance_153 ?_
  refine g_min C hl.1 xMmin_X8_34 ⟨(Nat.le_of_ble_eq_true rfl), (Nat.le_of_ble_eq_true rfl)⟩ (Nat.le_of_ble_eq_true rfl) (Nat.le_of_ble_eq_true rfl) dX8_advance_156 ?_
  refine lv_bipush (v := 10) C.1.1 C.1.2.1 dX8_advance_159 (by decide) ?_
  refine lv_imul C.1.1 C.1.2.1 dX8_advance_161 ?_
  refine lv_aload_n C.1.1 C.1.2.1 dX8_advance_162 rfl (lv_at hl 0 rfl) ?_
  refine lv_aload_n C.1.1 C.1.2.1 dX8_advance_163 rfl (lv_at hl 0 rfl) ?_
  refine xg_X8_22 C O.1 X (k := 2) rfl dX8_advance_164 ?_
  obtain ⟨q1, hq1, hF⟩ := bnd_some hF
  refine x_callVi C X (k := 2) xv_X8_43 (rfl : xk 2 = 8) rfl rfl (by decide) (kX8_at O.1 C.2.2.2.2.1 N (S 2 3) S q1 hq1) (Nat.le_of_ble_eq_true rfl) (Nat.le_of_ble_eq_true rfl) (Nat.le_of_ble_eq_true rfl) (Nat.le_of_ble_eq_true rfl) rfl hl.1 rfl (Nat.le_of_ble_eq_true rfl) dX8_advance_167 (fun H locs X => ?_)
  refine lv_iadd C.1.1 C.1.2.1 dX8_advance_170 ?_
  refine lv_bipush (v := 48) C.1.1 C.1.2.1 dX8_advance_171 (by decide) ?_
  refine lv_isub C.1.1 C.1.2.1 dX8_advance_173 ?_
  obtain ⟨S1, eS1, hF⟩ := lt_some hF
  refine xp_X8_31 C O.1 X (k := 2) rfl eS1 dX8_advance_174 (fun H locs X => ?_)
  refine lv_aload_n C.1.1 C.1.2.1 dX8_advance_177 rfl (lv_at hl 0 rfl) ?_
  refine lv_dup C.1.1 C.1.2.1 dX8_advance_178 rfl ?_
  refine xg_X8_22 C O.1 X (k := 2) rfl dX8_advance_179 ?_
  refine lv_iconst (v := 1) C.1.1 C.1.2.1 dX8_advance_182 (by decide) ?_
  refine lv_iadd C.1.1 C.1.2.1 dX8_advance_183 ?_
  obtain ⟨S2, eS2, hF⟩ := lt_some hF
  refine xp_X8_22 C O.1 X (k := 2) rfl eS2 dX8_advance_184 (fun H locs X => ?_)
  refine lv_goto (tgt := 104) C.1.1 C.1.2.1 dX8_advance_187 (by decide) ?_
  exact K104 _ _ _ _ _ X (lv_sub hl [0, 1] rfl) hF
noncomputable def fX8_advance_b130 (N : Nat) (r104 : Int32 → gS → Option (Int32 × gS)) (x1 : Int32) (S : gS) : Option (Int32 × gS) := bnd (fX8_at N (S 2 3) S) fun q1 => (bnd (fX8_kindOf N q1.1 q1.2) fun q2 => (if q2.1 = (q2.2 2 4) then fX8_advance_b148 N r104 x1 q2.2 else fX8_advance_b190 N q2.2))
theorem bX8_advance_130 {N : Nat} {r104 : Int32 → gS → Option (Int32 × gS)} {x1 : Int32} {S : gS} {H : Heap} {locs : List Loc} {ls : Array Slot} {o : Int32 × gS} (C : gC p s m args meth c cX8_advance 2 RX8 none D (xtys cI cB cZ cQ) xord g Am) (O : xsO g cI cB cZ cQ Am aK aV) (K104 : ∀ (x1 : Int32) (S : gS) (H : Heap) (locs : List Loc) (ls : Array Slot), gX D (xcell g cI cB cZ cQ) xord g S s H locs → lv_has ls 2 [(0, .ref (g 2)), (1, .int x1)] → r104 x1 S = some o → W p l e (rmd 5) s m args below meth c H locs 0 0 (gE below args s D (xtys cI cB cZ cQ) (xcell g cI cB cZ cQ) xord g none o.2) (F0 m 104 ls [])) (X : gX D (xcell g cI cB cZ cQ) xord g S s H locs) (hl : lv_has ls 2 [(0, .ref (g 2)), (1, .int x1)]) (hF : fX8_advance_b130 N r104 x1 S = some o) : W p l e (rmd 5) s m args below meth c H locs 0 0 (gE below args s D (xtys cI cB cZ cQ) (xcell g cI cB cZ cQ) xord g none o.2) (F0 m 130 ls []) := by
  unfold fX8_advance_b130 at hF
  refine lv_aload_n C.1.1 C.1.2.1 dX8_advance_130 rfl (lv_at hl 0 rfl) ?_
  refine lv_aload_n C.1.1 C.1.2.1 dX8_advance_131 rfl (lv_at hl 0 rfl) ?_
  refine xg_X8_22 C O.1 X (k := 2) rfl dX8_advance_132 ?_
  obtain ⟨q1, hq1, hF⟩ := bnd_some hF
  refine x_callVi C X (k := 2) xv_X8_43 (rfl : xk 2 = 8) rfl rfl (by decide) (kX8_at O.1 C.2.2.2.2.1 N (S 2 3) S q1 hq1) (Nat.le_of_ble_eq_true rfl) (Nat.le_of_ble_eq_true rfl) (Nat.le_of_ble_eq_true rfl) (Nat.le_of_ble_eq_true rfl) rfl hl.1 rfl (Nat.le_of_ble_eq_true rfl) dX8_advance_135 (fun H locs X => ?_)
  obtain ⟨q2, hq2, hF⟩ := bnd_some hF
  refine g_callSi C X xv_X8_47 (kX8_kindOf O C.2.2.2.2.1 N q1.1 q1.2 q2 hq2) (Nat.le_of_ble_eq_true rfl) (Nat.le_of_ble_eq_true rfl) (Nat.le_of_ble_eq_true rfl) (Nat.le_of_ble_eq_true rfl) rfl hl.1 rfl (Nat.le_of_ble_eq_true rfl) dX8_advance_138 (fun H locs X => ?_)
  refine lv_aload_n C.1.1 C.1.2.1 dX8_advance_141 rfl (lv_at hl 0 rfl) ?_
  refine xg_X8_25 C O.1 X (k := 2) rfl dX8_advance_142 ?_
  refine lv_icmp_ne (tgt := 190) C.1.1 C.1.2.1 dX8_advance_145 (by decide) (fun h_z => ?_) (fun h_z => ?_)
  · rw [if_neg h_z] at hF
    exact bX8_advance_190 C O X (lv_sub hl [0] rfl) hF
  · rw [if_pos h_z] at hF
    exact bX8_advance_148 C O K104 X (lv_sub hl [0, 1] rfl) hF
noncomputable def fX8_advance_b126 (N : Nat) (r104 : Int32 → gS → Option (Int32 × gS)) (x1 : Int32) (S : gS) : Option (Int32 × gS) := if x1 = 0 then fX8_advance_b190 N S else fX8_advance_b130 N r104 x1 S
theorem bX8_advance_126 {N : Nat} {r104 : Int32 → gS → Option (Int32 × gS)} {x1 : Int32} {S : gS} {H : Heap} {locs : List Loc} {ls : Array Slot} {o : Int32 × gS} (C : gC p s m args meth c cX8_advance 2 RX8 none D (xtys cI cB cZ cQ) xord g Am) (O : xsO g cI cB cZ cQ Am aK aV) (K104 : ∀ (x1 : Int32) (S : gS) (H : Heap) (locs : List Loc) (ls : Array Slot), gX D (xcell g cI cB cZ cQ) xord g S s H locs → lv_has ls 2 [(0, .ref (g 2)), (1, .int x1)] → r104 x1 S = some o → W p l e (rmd 5) s m args below meth c H locs 0 0 (gE below args s D (xtys cI cB cZ cQ) (xcell g cI cB cZ cQ) xord g none o.2) (F0 m 104 ls [])) (X : gX D (xcell g cI cB cZ cQ) xord g S s H locs) (hl : lv_has ls 2 [(0, .ref (g 2)), (1, .int x1)]) (hF : fX8_advance_b126 N r104 x1 S = some o) : W p l e (rmd 5) s m args below meth c H locs 0 0 (gE below args s D (xtys cI cB cZ cQ) (xcell g cI cB cZ cQ) xord g none o.2) (F0 m 126 ls []) := by
  unfold fX8_advance_b126 at hF
  refine lv_iload_n C.1.1 C.1.2.1 dX8_advance_126 rfl (lv_at hl 1 rfl) ?_
  refine lv_if_eq (tgt := 190) C.1.1 C.1.2.1 dX8_advance_127 (by decide) (fun h_z => ?_) (fun h_z => ?_)
  · rw [if_pos h_z] at hF
    exact bX8_advance_190 C O X (lv_sub hl [0] rfl) hF
  · rw [if_neg h_z] at hF
    exact bX8_advance_130 C O K104 X (lv_sub hl [0, 1] rfl) hF
noncomputable def fX8_advance_b115 (N : Nat) (r104 : Int32 → gS → Option (Int32 × gS)) (x1 : Int32) (S : gS) : Option (Int32 × gS) := if (S 2 3) = (S 2 5) then fX8_advance_b148 N r104 x1 S else fX8_advance_b126 N r104 x1 S
theorem bX8_advance_115 {N : Nat} {r104 : Int32 → gS → Option (Int32 × gS)} {x1 : Int32} {S : gS} {H : Heap} {locs : List Loc} {ls : Array Slot} {o : Int32 × gS} (C : gC p s m args meth c cX8_advance 2 RX8 none D (xtys cI cB cZ cQ) xord g Am) (O : xsO g cI cB cZ cQ Am aK aV) (K104 : ∀ (x1 : Int32) (S : gS) (H : Heap) (locs : List Loc) (ls : Array Slot), gX D (xcell g cI cB cZ cQ) xord g S s H locs → lv_has ls 2 [(0, .ref (g 2)), (1, .int x1)] → r104 x1 S = some o → W p l e (rmd 5) s m args below meth c H locs 0 0 (gE below args s D (xtys cI cB cZ cQ) (xcell g cI cB cZ cQ) xord g none o.2) (F0 m 104 ls [])) (X : gX D (xcell g cI cB cZ cQ) xord g S s H locs) (hl : lv_has ls 2 [(0, .ref (g 2)), (1, .int x1)]) (hF : fX8_advance_b115 N r104 x1 S = some o) : W p l e (rmd 5) s m args below meth c H locs 0 0 (gE below args s D (xtys cI cB cZ cQ) (xcell g cI cB cZ cQ) xord g none o.2) (F0 m 115 ls []) := by
  unfold fX8_advance_b115 at hF
  refine lv_aload_n C.1.1 C.1.2.1 dX8_advance_115 rfl (lv_at hl 0 rfl) ?_
  refine xg_X8_22 C O.1 X (k := 2) rfl dX8_advance_116 ?_
  refine lv_aload_n C.1.1 C.1.2.1 dX8_advance_119 rfl (lv_at hl 0 rfl) ?_
  refine xg_X8_28 C O.1 X (k := 2) rfl dX8_advance_120 ?_
  refine lv_icmp_eq (tgt := 148) C.1.1 C.1.2.1 dX8_advance_123 (by decide) (fun h_z => ?_) (fun h_z => ?_)
  · rw [if_pos h_z] at hF
    exact bX8_advance_148 C O K104 X (lv_sub hl [0, 1] rfl) hF
  · rw [if_neg h_z] at hF
    exact bX8_advance_126 C O K104 X (lv_sub hl [0, 1] rfl) hF
noncomputable def fX8_advance_b104 (N : Nat) (r104 : Int32 → gS → Option (Int32 × gS)) (x1 : Int32) (S : gS) : Option (Int32 × gS) := if (S 2 2) ≤ (S 2 3) then fX8_advance_b190 N S else fX8_advance_b115 N r104 x1 S
theorem bX8_advance_104 {N : Nat} {r104 : Int32 → gS → Option (Int32 × gS)} {x1 : Int32} {S : gS} {H : Heap} {locs : List Loc} {ls : Array Slot} {o : Int32 × gS} (C : gC p s m args meth c cX8_advance 2 RX8 none D (xtys cI cB cZ cQ) xord g Am) (O : xsO g cI cB cZ cQ Am aK aV) (K104 : ∀ (x1 : Int32) (S : gS) (H : Heap) (locs : List Loc) (ls : Array Slot), gX D (xcell g cI cB cZ cQ) xord g S s H locs → lv_has ls 2 [(0, .ref (g 2)), (1, .int x1)] → r104 x1 S = some o → W p l e (rmd 5) s m args below meth c H locs 0 0 (gE below args s D (xtys cI cB cZ cQ) (xcell g cI cB cZ cQ) xord g none o.2) (F0 m 104 ls [])) (X : gX D (xcell g cI cB cZ cQ) xord g S s H locs) (hl : lv_has ls 2 [(0, .ref (g 2)), (1, .int x1)]) (hF : fX8_advance_b104 N r104 x1 S = some o) : W p l e (rmd 5) s m args below meth c H locs 0 0 (gE below args s D (xtys cI cB cZ cQ) (xcell g cI cB cZ cQ) xord g none o.2) (F0 m 104 ls []) := by
  unfold fX8_advance_b104 at hF
  refine lv_aload_n C.1.1 C.1.2.1 dX8_advance_104 rfl (lv_at hl 0 rfl) ?_
  refine xg_X8_22 C O.1 X (k := 2) rfl dX8_advance_105 ?_
  refine lv_aload_n C.1.1 C.1.2.1 dX8_advance_108 rfl (lv_at hl 0 rfl) ?_
  refine xg_X8_19 C O.1 X (k := 2) rfl dX8_advance_109 ?_
  refine lv_icmp_ge (tgt := 190) C.1.1 C.1.2.1 dX8_advance_112 (by decide) (fun h_z => ?_) (fun h_z => ?_)
  · rw [if_pos h_z] at hF
    exact bX8_advance_190 C O X (lv_sub hl [0] rfl) hF
  · rw [if_neg h_z] at hF
    exact bX8_advance_115 C O K104 X (lv_sub hl [0, 1] rfl) hF
noncomputable def fX8_advance_h104 (N : Nat) : Nat → Int32 → gS → Option (Int32 × gS)
  | 0, _, _ => none
  | n + 1, x1, S => fX8_advance_b104 N (fX8_advance_h104 N n) x1 S
theorem hX8_advance_104 {N : Nat} {o : Int32 × gS} (C : gC p s m args meth c cX8_advance 2 RX8 none D (xtys cI cB cZ cQ) xord g Am) (O : xsO g cI cB cZ cQ Am aK aV) : ∀ (n : Nat) (x1 : Int32) (S : gS) (H : Heap) (locs : List Loc) (ls : Array Slot), gX D (xcell g cI cB cZ cQ) xord g S s H locs → lv_has ls 2 [(0, .ref (g 2)), (1, .int x1)] → fX8_advance_h104 N n x1 S = some o → W p l e (rmd 5) s m args below meth c H locs 0 0 (gE below args s D (xtys cI cB cZ cQ) (xcell g cI cB cZ cQ) xord g none o.2) (F0 m 104 ls []) := by
  intro n
  induction n with
  | zero =>
    intro x1 S H locs ls X hl hF
    exact absurd (show (none : Option (Int32 × gS)) = some o from hF) (by simp)
  | succ n ih =>
    intro x1 S H locs ls X hl hF
    have hF : fX8_advance_b104 N (fX8_advance_h104 N n) x1 S = some o := hF
    exact bX8_advance_104 C O ih X hl hF
noncomputable def fX8_advance_b98 (N : Nat) (t0 : Int32) (S : gS) : Option (Int32 × gS) := lt (sU S 2 6 0) fun S1 => (fX8_advance_h104 N N t0 S1)
theorem bX8_advance_98 {N : Nat} {t0 : Int32} {S : gS} {H : Heap} {locs : List Loc} {ls : Array Slot} {o : Int32 × gS} (C : gC p s m args meth c cX8_advance 2 RX8 none D (xtys cI cB cZ cQ) xord g Am) (O : xsO g cI cB cZ cQ Am aK aV) (X : gX D (xcell g cI cB cZ cQ) xord g S s H locs) (hl : lv_has ls 2 [(0, .ref (g 2))]) (hF : fX8_advance_b98 N t0 S = some o) : W p l e (rmd 5) s m args below meth c H locs 0 0 (gE below args s D (xtys cI cB cZ cQ) (xcell g cI cB cZ cQ) xord g none o.2) (F0 m 98 ls [.int t0]) := by
  unfold fX8_advance_b98 at hF
  refine lv_istore_n (lv' := [(1, .int t0), (0, .ref (g 2))]) C.1.1 C.1.2.1 dX8_advance_98 rfl hl (by decide) rfl (fun ls hl => ?_)
  refine lv_aload_n C.1.1 C.1.2.1 dX8_advance_99 rfl (lv_at hl 1 rfl) ?_
  refine lv_iconst (v := 0) C.1.1 C.1.2.1 dX8_advance_100 (by decide) ?_
  obtain ⟨S1, eS1, hF⟩ := lt_some hF
  refine xp_X8_31 C O.1 X (k := 2) rfl eS1 dX8_advance_101 (fun H locs X => ?_)
  exact hX8_advance_104 C O N _ _ _ _ _ X (lv_sub hl [1, 0] rfl) hF
noncomputable def fX8_advance_b97 (N : Nat) (S : gS) : Option (Int32 × gS) := fX8_advance_b98 N 0 S
theorem bX8_advance_97 {N : Nat} {S : gS} {H : Heap} {locs : List Loc} {ls : Array Slot} {o : Int32 × gS} (C : gC p s m args meth c cX8_advance 2 RX8 none D (xtys cI cB cZ cQ) xord g Am) (O : xsO g cI cB cZ cQ Am aK aV) (X : gX D (xcell g cI cB cZ cQ) xord g S s H locs) (hl : lv_has ls 2 [(0, .ref (g 2))]) (hF : fX8_advance_b97 N S = some o) : W p l e (rmd 5) s m args below meth c H locs 0 0 (gE below args s D (xtys cI cB cZ cQ) (xcell g cI cB cZ cQ) xord g none o.2) (F0 m 97 ls []) := by
  unfold fX8_advance_b97 at hF
  refine lv_iconst (v := 0) C.1.1 C.1.2.1 dX8_advance_97 (by decide) ?_
  exact bX8_advance_98 C O X (lv_sub hl [0] rfl) hF
noncomputable def fX8_advance_b93 (N : Nat) (S : gS) : Option (Int32 × gS) := fX8_advance_b98 N 1 S
theorem bX8_advance_93 {N : Nat} {S : gS} {H : Heap} {locs : List Loc} {ls : Array Slot} {o : Int32 × gS} (C : gC p s m args meth c cX8_advance 2 RX8 none D (xtys cI cB cZ cQ) xord g Am) (O : xsO g cI cB cZ cQ Am aK aV) (X : gX D (xcell g cI cB cZ cQ) xord g S s H locs) (hl : lv_has ls 2 [(0, .ref (g 2))]) (hF : fX8_advance_b93 N S = some o) : W p l e (rmd 5) s m args below meth c H locs 0 0 (gE below args s D (xtys cI cB cZ cQ) (xcell g cI cB cZ cQ) xord g none o.2) (F0 m 93 ls []) := by
  unfold fX8_advance_b93 at hF
  refine lv_iconst (v := 1) C.1.1 C.1.2.1 dX8_advance_93 (by decide) ?_
  refine lv_goto (tgt := 98) C.1.1 C.1.2.1 dX8_advance_94 (by decide) ?_
  exact bX8_advance_98 C O X (lv_sub hl [0] rfl) hF
noncomputable def fX8_advance_b85 (N : Nat) (S : gS) : Option (Int32 × gS) := if (S 2 4) = 2 then fX8_advance_b93 N S else fX8_advance_b97 N S
theorem bX8_advance_85 {N : Nat} {S : gS} {H : Heap} {locs : List Loc} {ls : Array Slot} {o : Int32 × gS} (C : gC p s m args meth c cX8_advance 2 RX8 none D (xtys cI cB cZ cQ) xord g Am) (O : xsO g cI cB cZ cQ Am aK aV) (X : gX D (xcell g cI cB cZ cQ) xord g S s H locs) (hl : lv_has ls 2 [(0, .ref (g 2))]) (hF : fX8_advance_b85 N S = some o) : W p l e (rmd 5) s m args below meth c H locs 0 0 (gE below args s D (xtys cI cB cZ cQ) (xcell g cI cB cZ cQ) xord g none o.2) (F0 m 85 ls []) := by
  unfold fX8_advance_b85 at hF
  refine lv_aload_n C.1.1 C.1.2.1 dX8_advance_85 rfl (lv_at hl 0 rfl) ?_
  refine xg_X8_25 C O.1 X (k := 2) rfl dX8_advance_86 ?_
  refine lv_iconst (v := 2) C.1.1 C.1.2.1 dX8_advance_89 (by decide) ?_
  refine lv_icmp_ne (tgt := 97) C.1.1 C.1.2.1 dX8_advance_90 (by decide) (fun h_z => ?_) (fun h_z => ?_)
  · rw [if_neg h_z] at hF
    exact bX8_advance_97 C O X (lv_sub hl [0] rfl) hF
  · rw [if_pos h_z] at hF
    exact bX8_advance_93 C O X (lv_sub hl [0] rfl) hF
noncomputable def fX8_advance_b74 (N : Nat) (t1 : Int32) (S : gS) : Option (Int32 × gS) := lt (sU S 2 4 t1) fun S1 => (if (S1 2 4) = 1 then fX8_advance_b93 N S1 else fX8_advance_b85 N S1)
theorem bX8_advance_74 {N : Nat} {t1 : Int32} {S : gS} {H : Heap} {locs : List Loc} {ls : Array Slot} {o : Int32 × gS} (C : gC p s m args meth c cX8_advance 2 RX8 none D (xtys cI cB cZ cQ) xord g Am) (O : xsO g cI cB cZ cQ Am aK aV) (X : gX D (xcell g cI cB cZ cQ) xord g S s H locs) (hl : lv_has ls 2 [(0, .ref (g 2))]) (hF : fX8_advance_b74 N t1 S = some o) : W p l e (rmd 5) s m args below meth c H locs 0 0 (gE below args s D (xtys cI cB cZ cQ) (xcell g cI cB cZ cQ) xord g none o.2) (F0 m 74 ls [.int t1, .ref (g 2)]) := by
  unfold fX8_advance_b74 at hF
  obtain ⟨S1, eS1, hF⟩ := lt_some hF
  refine xp_X8_25 C O.1 X (k := 2) rfl eS1 dX8_advance_74 (fun H locs X => ?_)
  refine lv_aload_n C.1.1 C.1.2.1 dX8_advance_77 rfl (lv_at hl 0 rfl) ?_
  refine xg_X8_25 C O.1 X (k := 2) rfl dX8_advance_78 ?_
  refine lv_iconst (v := 1) C.1.1 C.1.2.1 dX8_advance_81 (by decide) ?_
  refine lv_icmp_eq (tgt := 93) C.1.1 C.1.2.1 dX8_advance_82 (by decide) (fun h_z => ?_) (fun h_z => ?_)
  · rw [if_pos h_z] at hF
    exact bX8_advance_93 C O X (lv_sub hl [0] rfl) hF
  · rw [if_neg h_z] at hF
    exact bX8_advance_85 C O X (lv_sub hl [0] rfl) hF
noncomputable def fX8_advance_b73 (N : Nat) (S : gS) : Option (Int32 × gS) := fX8_advance_b74 N 0 S
theorem bX8_advance_73 {N : Nat} {S : gS} {H : Heap} {locs : List Loc} {ls : Array Slot} {o : Int32 × gS} (C : gC p s m args meth c cX8_advance 2 RX8 none D (xtys cI cB cZ cQ) xord g Am) (O : xsO g cI cB cZ cQ Am aK aV) (X : gX D (xcell g cI cB cZ cQ) xord g S s H locs) (hl : lv_has ls 2 [(0, .ref (g 2))]) (hF : fX8_advance_b73 N S = some o) : W p l e (rmd 5) s m args below meth c H locs 0 0 (gE below args s D (xtys cI cB cZ cQ) (xcell g cI cB cZ cQ) xord g none o.2) (F0 m 73 ls [.ref (g 2)]) := by
  unfold fX8_advance_b73 at hF
  refine lv_iconst (v := 0) C.1.1 C.1.2.1 dX8_advance_73 (by decide) ?_
  exact bX8_advance_74 C O X (lv_sub hl [0] rfl) hF
noncomputable def fX8_advance_b59 (N : Nat) (S : gS) : Option (Int32 × gS) := bnd (fX8_at N (S 2 3) S) fun q1 => (bnd (fX8_kindOf N q1.1 q1.2) fun q2 => (fX8_advance_b74 N q2.1 q2.2))
theorem bX8_advance_59 {N : Nat} {S : gS} {H : Heap} {locs : List Loc} {ls : Array Slot} {o : Int32 × gS} (C : gC p s m args meth c cX8_advance 2 RX8 none D (xtys cI cB cZ cQ) xord g Am) (O : xsO g cI cB cZ cQ Am aK aV) (X : gX D (xcell g cI cB cZ cQ) xord g S s H locs) (hl : lv_has ls 2 [(0, .ref (g 2))]) (hF : fX8_advance_b59 N S = some o) : W p l e (rmd 5) s m args below meth c H locs 0 0 (gE below args s D (xtys cI cB cZ cQ) (xcell g cI cB cZ cQ) xord g none o.2) (F0 m 59 ls [.ref (g 2)]) := by
  unfold fX8_advance_b59 at hF
  refine lv_aload_n C.1.1 C.1.2.1 dX8_advance_59 rfl (lv_at hl 0 rfl) ?_
  refine lv_aload_n C.1.1 C.1.2.1 dX8_advance_60 rfl (lv_at hl 0 rfl) ?_
  refine xg_X8_22 C O.1 X (k := 2) rfl dX8_advance_61 ?_
  obtain ⟨q1, hq1, hF⟩ := bnd_some hF
  refine x_callVi C X (k := 2) xv_X8_43 (rfl : xk 2 = 8) rfl rfl (by decide) (kX8_at O.1 C.2.2.2.2.1 N (S 2 3) S q1 hq1) (Nat.le_of_ble_eq_true rfl) (Nat.le_of_ble_eq_true rfl) (Nat.le_of_ble_eq_true rfl) (Nat.le_of_ble_eq_true rfl) rfl hl.1 rfl (Nat.le_of_ble_eq_true rfl) dX8_advance_64 (fun H locs X => ?_)
  obtain ⟨q2, hq2, hF⟩ := bnd_some hF
  refine g_callSi C X xv_X8_47 (kX8_kindOf O C.2.2.2.2.1 N q1.1 q1.2 q2 hq2) (Nat.le_of_ble_eq_true rfl) (Nat.le_of_ble_eq_true rfl) (Nat.le_of_ble_eq_true rfl) (Nat.le_of_ble_eq_true rfl) rfl hl.1 rfl (Nat.le_of_ble_eq_true rfl) dX8_advance_67 (fun H locs X => ?_)
  refine lv_goto (tgt := 74) C.1.1 C.1.2.1 dX8_advance_70 (by decide) ?_
  exact bX8_advance_74 C O X (lv_sub hl [0] rfl) hF
noncomputable def fX8_advance_b39 (N : Nat) (S : gS) : Option (Int32 × gS) := lt (sU S 2 5 (S 2 3)) fun S1 => (if (S1 2 2) ≤ (S1 2 3) then fX8_advance_b73 N S1 else fX8_advance_b59 N S1)
theorem bX8_advance_39 {N : Nat} {S : gS} {H : Heap} {locs : List Loc} {ls : Array Slot} {o : Int32 × gS} (C : gC p s m args meth c cX8_advance 2 RX8 none D (xtys cI cB cZ cQ) xord g Am) (O : xsO g cI cB cZ cQ Am aK aV) (X : gX D (xcell g cI cB cZ cQ) xord g S s H locs) (hl : lv_has ls 2 [(0, .ref (g 2))]) (hF : fX8_advance_b39 N S = some o) : W p l e (rmd 5) s m args below meth c H locs 0 0 (gE below args s D (xtys cI cB cZ cQ) (xcell g cI cB cZ cQ) xord g none o.2) (F0 m 39 ls []) := by
  unfold fX8_advance_b39 at hF
  refine lv_aload_n C.1.1 C.1.2.1 dX8_advance_39 rfl (lv_at hl 0 rfl) ?_
  refine lv_aload_n C.1.1 C.1.2.1 dX8_advance_40 rfl (lv_at hl 0 rfl) ?_
  refine xg_X8_22 C O.1 X (k := 2) rfl dX8_advance_41 ?_
  obtain ⟨S1, eS1, hF⟩ := lt_some hF
  refine xp_X8_28 C O.1 X (k := 2) rfl eS1 dX8_advance_44 (fun H locs X => ?_)
  refine lv_aload_n C.1.1 C.1.2.1 dX8_advance_47 rfl (lv_at hl 0 rfl) ?_
  refine lv_aload_n C.1.1 C.1.2.1 dX8_advance_48 rfl (lv_at hl 0 rfl) ?_
  refine xg_X8_22 C O.1 X (k := 2) rfl dX8_advance_49 ?_
  refine lv_aload_n C.1.1 C.1.2.1 dX8_advance_52 rfl (lv_at hl 0 rfl) ?_
  refine xg_X8_19 C O.1 X (k := 2) rfl dX8_advance_53 ?_
  refine lv_icmp_ge (tgt := 73) C.1.1 C.1.2.1 dX8_advance_56 (by decide) (fun h_z => ?_) (fun h_z => ?_)
  · rw [if_pos h_z] at hF
    exact bX8_advance_73 C O X (lv_sub hl [0] rfl) hF
  · rw [if_neg h_z] at hF
    exact bX8_advance_59 C O X (lv_sub hl [0] rfl) hF
noncomputable def fX8_advance_b26 (N : Nat) (r0 : gS → Option (Int32 × gS)) (S : gS) : Option (Int32 × gS) := lt (sU S 2 3 (((S 2 3) + 1 : Int32))) fun S1 => (r0 S1)
theorem bX8_advance_26 {N : Nat} {r0 : gS → Option (Int32 × gS)} {S : gS} {H : Heap} {locs : List Loc} {ls : Array Slot} {o : Int32 × gS} (C : gC p s m args meth c cX8_advance 2 RX8 none D (xtys cI cB cZ cQ) xord g Am) (O : xsO g cI cB cZ cQ Am aK aV) (K0 : ∀ (S : gS) (H : Heap) (locs : List Loc) (ls : Array Slot), gX D (xcell g cI cB cZ cQ) xord g S s H locs → lv_has ls 2 [(0, .ref (g 2))] → r0 S = some o → W p l e (rmd 5) s m args below meth c H locs 0 0 (gE below args s D (xtys cI cB cZ cQ) (xcell g cI cB cZ cQ) xord g none o.2) (F0 m 0 ls [])) (X : gX D (xcell g cI cB cZ cQ) xord g S s H locs) (hl : lv_has ls 2 [(0, .ref (g 2))]) (hF : fX8_advance_b26 N r0 S = some o) : W p l e (rmd 5) s m args below meth c H locs 0 0 (gE below args s D (xtys cI cB cZ cQ) (xcell g cI cB cZ cQ) xord g none o.2) (F0 m 26 ls []) := by
  unfold fX8_advance_b26 at hF
  refine lv_aload_n C.1.1 C.1.2.1 dX8_advance_26 rfl (lv_at hl 0 rfl) ?_
  refine lv_dup C.1.1 C.1.2.1 dX8_advance_27 rfl ?_
  refine xg_X8_22 C O.1 X (k := 2) rfl dX8_advance_28 ?_
  refine lv_iconst (v := 1) C.1.1 C.1.2.1 dX8_advance_31 (by decide) ?_
  refine lv_iadd C.1.1 C.1.2.1 dX8_advance_32 ?_
  obtain ⟨S1, eS1, hF⟩ := lt_some hF
  refine xp_X8_22 C O.1 X (k := 2) rfl eS1 dX8_advance_33 (fun H locs X => ?_)
  refine lv_goto (tgt := 0) C.1.1 C.1.2.1 dX8_advance_36 (by decide) ?_
  exact K0 _ _ _ _ X (lv_sub hl [0] rfl) hF
noncomputable def fX8_advance_b11 (N : Nat) (r0 : gS → Option (Int32 × gS)) (S : gS) : Option (Int32 × gS) := bnd (fX8_at N (S 2 3) S) fun q1 => (bnd (fX8_kindOf N q1.1 q1.2) fun q2 => (if q2.1 = 5 then fX8_advance_b26 N r0 q2.2 else fX8_advance_b39 N q2.2))
theorem bX8_advance_11 {N : Nat} {r0 : gS → Option (Int32 × gS)} {S : gS} {H : Heap} {locs : List Loc} {ls : Array Slot} {o : Int32 × gS} (C : gC p s m args meth c cX8_advance 2 RX8 none D (xtys cI cB cZ cQ) xord g Am) (O : xsO g cI cB cZ cQ Am aK aV) (K0 : ∀ (S : gS) (H : Heap) (locs : List Loc) (ls : Array Slot), gX D (xcell g cI cB cZ cQ) xord g S s H locs → lv_has ls 2 [(0, .ref (g 2))] → r0 S = some o → W p l e (rmd 5) s m args below meth c H locs 0 0 (gE below args s D (xtys cI cB cZ cQ) (xcell g cI cB cZ cQ) xord g none o.2) (F0 m 0 ls [])) (X : gX D (xcell g cI cB cZ cQ) xord g S s H locs) (hl : lv_has ls 2 [(0, .ref (g 2))]) (hF : fX8_advance_b11 N r0 S = some o) : W p l e (rmd 5) s m args below meth c H locs 0 0 (gE below args s D (xtys cI cB cZ cQ) (xcell g cI cB cZ cQ) xord g none o.2) (F0 m 11 ls []) := by
  unfold fX8_advance_b11 at hF
  refine lv_aload_n C.1.1 C.1.2.1 dX8_advance_11 rfl (lv_at hl 0 rfl) ?_
  refine lv_aload_n C.1.1 C.1.2.1 dX8_advance_12 rfl (lv_at hl 0 rfl) ?_
  refine xg_X8_22 C O.1 X (k := 2) rfl dX8_advance_13 ?_
  obtain ⟨q1, hq1, hF⟩ := bnd_some hF
  refine x_callVi C X (k := 2) xv_X8_43 (rfl : xk 2 = 8) rfl rfl (by decide) (kX8_at O.1 C.2.2.2.2.1 N (S 2 3) S q1 hq1) (Nat.le_of_ble_eq_true rfl) (Nat.le_of_ble_eq_true rfl) (Nat.le_of_ble_eq_true rfl) (Nat.le_of_ble_eq_true rfl) rfl hl.1 rfl (Nat.le_of_ble_eq_true rfl) dX8_advance_16 (fun H locs X => ?_)
  obtain ⟨q2, hq2, hF⟩ := bnd_some hF
  refine g_callSi C X xv_X8_47 (kX8_kindOf O C.2.2.2.2.1 N q1.1 q1.2 q2 hq2) (Nat.le_of_ble_eq_true rfl) (Nat.le_of_ble_eq_true rfl) (Nat.le_of_ble_eq_true rfl) (Nat.le_of_ble_eq_true rfl) rfl hl.1 rfl (Nat.le_of_ble_eq_true rfl) dX8_advance_19 (fun H locs X => ?_)
  refine lv_iconst (v := 5) C.1.1 C.1.2.1 dX8_advance_22 (by decide) ?_
  refine lv_icmp_ne (tgt := 39) C.1.1 C.1.2.1 dX8_advance_23 (by decide) (fun h_z => ?_) (fun h_z => ?_)
  · rw [if_neg h_z] at hF
    exact bX8_advance_39 C O X (lv_sub hl [0] rfl) hF
  · rw [if_pos h_z] at hF
    exact bX8_advance_26 C O K0 X (lv_sub hl [0] rfl) hF
noncomputable def fX8_advance_b0 (N : Nat) (r0 : gS → Option (Int32 × gS)) (S : gS) : Option (Int32 × gS) := if (S 2 2) ≤ (S 2 3) then fX8_advance_b39 N S else fX8_advance_b11 N r0 S
theorem bX8_advance_0 {N : Nat} {r0 : gS → Option (Int32 × gS)} {S : gS} {H : Heap} {locs : List Loc} {ls : Array Slot} {o : Int32 × gS} (C : gC p s m args meth c cX8_advance 2 RX8 none D (xtys cI cB cZ cQ) xord g Am) (O : xsO g cI cB cZ cQ Am aK aV) (K0 : ∀ (S : gS) (H : Heap) (locs : List Loc) (ls : Array Slot), gX D (xcell g cI cB cZ cQ) xord g S s H locs → lv_has ls 2 [(0, .ref (g 2))] → r0 S = some o → W p l e (rmd 5) s m args below meth c H locs 0 0 (gE below args s D (xtys cI cB cZ cQ) (xcell g cI cB cZ cQ) xord g none o.2) (F0 m 0 ls [])) (X : gX D (xcell g cI cB cZ cQ) xord g S s H locs) (hl : lv_has ls 2 [(0, .ref (g 2))]) (hF : fX8_advance_b0 N r0 S = some o) : W p l e (rmd 5) s m args below meth c H locs 0 0 (gE below args s D (xtys cI cB cZ cQ) (xcell g cI cB cZ cQ) xord g none o.2) (F0 m 0 ls []) := by
  unfold fX8_advance_b0 at hF
  refine lv_aload_n C.1.1 C.1.2.1 dX8_advance_0 rfl (lv_at hl 0 rfl) ?_
  refine xg_X8_22 C O.1 X (k := 2) rfl dX8_advance_1 ?_
  refine lv_aload_n C.1.1 C.1.2.1 dX8_advance_4 rfl (lv_at hl 0 rfl) ?_
  refine xg_X8_19 C O.1 X (k := 2) rfl dX8_advance_5 ?_
  refine lv_icmp_ge (tgt := 39) C.1.1 C.1.2.1 dX8_advance_8 (by decide) (fun h_z => ?_) (fun h_z => ?_)
  · rw [if_pos h_z] at hF
    exact bX8_advance_39 C O X (lv_sub hl [0] rfl) hF
  · rw [if_neg h_z] at hF
    exact bX8_advance_11 C O K0 X (lv_sub hl [0] rfl) hF
noncomputable def fX8_advance_h0 (N : Nat) : Nat → gS → Option (Int32 × gS)
  | 0, _ => none
  | n + 1, S => fX8_advance_b0 N (fX8_advance_h0 N n) S
theorem hX8_advance_0 {N : Nat} {o : Int32 × gS} (C : gC p s m args meth c cX8_advance 2 RX8 none D (xtys cI cB cZ cQ) xord g Am) (O : xsO g cI cB cZ cQ Am aK aV) : ∀ (n : Nat) (S : gS) (H : Heap) (locs : List Loc) (ls : Array Slot), gX D (xcell g cI cB cZ cQ) xord g S s H locs → lv_has ls 2 [(0, .ref (g 2))] → fX8_advance_h0 N n S = some o → W p l e (rmd 5) s m args below meth c H locs 0 0 (gE below args s D (xtys cI cB cZ cQ) (xcell g cI cB cZ cQ) xord g none o.2) (F0 m 0 ls []) := by
  intro n
  induction n with
  | zero =>
    intro S H locs ls X hl hF
    exact absurd (show (none : Option (Int32 × gS)) = some o from hF) (by simp)
  | succ n ih =>
    intro S H locs ls X hl hF
    have hF : fX8_advance_b0 N (fX8_advance_h0 N n) S = some o := hF
    exact bX8_advance_0 C O ih X hl hF
noncomputable def fX8_advance (N : Nat) (S : gS) : Option (Int32 × gS) := fX8_advance_h0 N N S
theorem kX8_advance {l : Launch} {D : va_G} {g : Nat → Nat} {cI cB cZ cQ : ClassId} {Am : (Nat → Prop) → State → Heap → Prop} {aK aV : Nat → Nat} (O : xsO g cI cB cZ cQ Am aK aV) (P : gAm Am) (N : Nat) (S : gS) (o : Int32 × gS) (hF : fX8_advance N S = some o) : gM l yX8_advance cX8_advance 2 none 5 D (xtys cI cB cZ cQ) (xcell g cI cB cZ cQ) xord g Am [.ref (g 2)] S none o.2 :=
  gM_of O.1.1 P (by decide) (Nat.le_of_ble_eq_true rfl) (fun p e s m args below meth c ls C X hl => hX8_advance_0 C O N _ _ _ _ X (lv_sub hl [0] rfl) hF)
-- X3.skipSign
noncomputable def fX3_skipSign_b33 (N : Nat) (S : gS) : Option (Int32 × gS) := some (0, S)
theorem bX3_skipSign_33 {N : Nat} {S : gS} {H : Heap} {locs : List Loc} {ls : Array Slot} {o : Int32 × gS} (C : gC p s m args meth c cX3_skipSign 2 RX3 none D (xtys cI cB cZ cQ) xord g Am) (O : xsO g cI cB cZ cQ Am aK aV) (X : gX D (xcell g cI cB cZ cQ) xord g S s H locs) (hl : lv_has ls 2 []) (hF : fX3_skipSign_b33 N S = some o) : W p l e (rmd 6) s m args below meth c H locs 0 0 (gE below args s D (xtys cI cB cZ cQ) (xcell g cI cB cZ cQ) xord g none o.2) (F0 m 33 ls []) := by
  unfold fX3_skipSign_b33 at hF
  cases hF
  exact g_vret C X dX3_skipSign_33
noncomputable def fX3_skipSign_b26 (N : Nat) (S : gS) : Option (Int32 × gS) := bnd (fX8_advance N S) fun q1 => (fX3_skipSign_b33 N q1.2)
theorem bX3_skipSign_26 {N : Nat} {S : gS} {H : Heap} {locs : List Loc} {ls : Array Slot} {o : Int32 × gS} (C : gC p s m args meth c cX3_skipSign 2 RX3 none D (xtys cI cB cZ cQ) xord g Am) (O : xsO g cI cB cZ cQ Am aK aV) (X : gX D (xcell g cI cB cZ cQ) xord g S s H locs) (hl : lv_has ls 2 [(0, .ref (g 1))]) (hF : fX3_skipSign_b26 N S = some o) : W p l e (rmd 6) s m args below meth c H locs 0 0 (gE below args s D (xtys cI cB cZ cQ) (xcell g cI cB cZ cQ) xord g none o.2) (F0 m 26 ls []) := by
  unfold fX3_skipSign_b26 at hF
  refine lv_aload_n C.1.1 C.1.2.1 dX3_skipSign_26 rfl (lv_at hl 0 rfl) ?_
  refine xg_X3_12 C O.1 X (k := 1) rfl (j := 2) rfl dX3_skipSign_27 ?_
  obtain ⟨q1, hq1, hF⟩ := bnd_some hF
  refine x_callV C X (k := 2) xv_X3_63 (rfl : xk 2 = 8) rfl rfl (by decide) (kX8_advance O C.2.2.2.2.1 N S q1 hq1) (Nat.le_of_ble_eq_true rfl) (Nat.le_of_ble_eq_true rfl) (Nat.le_of_ble_eq_true rfl) (Nat.le_of_ble_eq_true rfl) rfl hl.1 rfl (Nat.le_of_ble_eq_true rfl) dX3_skipSign_30 (fun H locs X => ?_)
  exact bX3_skipSign_33 C O X (lv_sub hl [] rfl) hF
noncomputable def fX3_skipSign_b19 (N : Nat) (S : gS) : Option (Int32 × gS) := bnd (fX3_isFine N S) fun q1 => (if q1.1 = 0 then fX3_skipSign_b33 N q1.2 else fX3_skipSign_b26 N q1.2)
theorem bX3_skipSign_19 {N : Nat} {S : gS} {H : Heap} {locs : List Loc} {ls : Array Slot} {o : Int32 × gS} (C : gC p s m args meth c cX3_skipSign 2 RX3 none D (xtys cI cB cZ cQ) xord g Am) (O : xsO g cI cB cZ cQ Am aK aV) (X : gX D (xcell g cI cB cZ cQ) xord g S s H locs) (hl : lv_has ls 2 [(0, .ref (g 1))]) (hF : fX3_skipSign_b19 N S = some o) : W p l e (rmd 6) s m args below meth c H locs 0 0 (gE below args s D (xtys cI cB cZ cQ) (xcell g cI cB cZ cQ) xord g none o.2) (F0 m 19 ls []) := by
  unfold fX3_skipSign_b19 at hF
  refine lv_aload_n C.1.1 C.1.2.1 dX3_skipSign_19 rfl (lv_at hl 0 rfl) ?_
  obtain ⟨q1, hq1, hF⟩ := bnd_some hF
  refine x_callVi C X (k := 1) xv_X3_39 (rfl : xk 1 = 3) rfl rfl (by decide) (kX3_isFine O.1 C.2.2.2.2.1 N S q1 hq1) (Nat.le_of_ble_eq_true rfl) (Nat.le_of_ble_eq_true rfl) (Nat.le_of_ble_eq_true rfl) (Nat.le_of_ble_eq_true rfl) rfl hl.1 rfl (Nat.le_of_ble_eq_true rfl) dX3_skipSign_20 (fun H locs X => ?_)
  refine lv_if_eq (tgt := 33) C.1.1 C.1.2.1 dX3_skipSign_23 (by decide) (fun h_z => ?_) (fun h_z => ?_)
  · rw [if_pos h_z] at hF
    exact bX3_skipSign_33 C O X (lv_sub hl [] rfl) hF
  · rw [if_neg h_z] at hF
    exact bX3_skipSign_26 C O X (lv_sub hl [0] rfl) hF
noncomputable def fX3_skipSign_b11 (N : Nat) (S : gS) : Option (Int32 × gS) := bnd (fX3_refuse N 1 S) fun q1 => (fX3_skipSign_b33 N q1.2)
theorem bX3_skipSign_11 {N : Nat} {S : gS} {H : Heap} {locs : List Loc} {ls : Array Slot} {o : Int32 × gS} (C : gC p s m args meth c cX3_skipSign 2 RX3 none D (xtys cI cB cZ cQ) xord g Am) (O : xsO g cI cB cZ cQ Am aK aV) (X : gX D (xcell g cI cB cZ cQ) xord g S s H locs) (hl : lv_has ls 2 [(0, .ref (g 1))]) (hF : fX3_skipSign_b11 N S = some o) : W p l e (rmd 6) s m args below meth c H locs 0 0 (gE below args s D (xtys cI cB cZ cQ) (xcell g cI cB cZ cQ) xord g none o.2) (F0 m 11 ls []) := by
  unfold fX3_skipSign_b11 at hF
  refine lv_aload_n C.1.1 C.1.2.1 dX3_skipSign_11 rfl (lv_at hl 0 rfl) ?_
  refine lv_iconst (v := 1) C.1.1 C.1.2.1 dX3_skipSign_12 (by decide) ?_
  obtain ⟨q1, hq1, hF⟩ := bnd_some hF
  refine x_callV C X (k := 1) xv_X3_60 (rfl : xk 1 = 3) rfl rfl (by decide) (kX3_refuse O.1 C.2.2.2.2.1 N 1 S q1 hq1) (Nat.le_of_ble_eq_true rfl) (Nat.le_of_ble_eq_true rfl) (Nat.le_of_ble_eq_true rfl) (Nat.le_of_ble_eq_true rfl) rfl hl.1 rfl (Nat.le_of_ble_eq_true rfl) dX3_skipSign_13 (fun H locs X => ?_)
  refine lv_goto (tgt := 33) C.1.1 C.1.2.1 dX3_skipSign_16 (by decide) ?_
  exact bX3_skipSign_33 C O X (lv_sub hl [] rfl) hF
noncomputable def fX3_skipSign_b0 (N : Nat) (x1 : Int32) (S : gS) : Option (Int32 × gS) := bnd (fX8_isAtSign N x1 S) fun q1 => (if q1.1 = 0 then fX3_skipSign_b11 N q1.2 else fX3_skipSign_b19 N q1.2)
theorem bX3_skipSign_0 {N : Nat} {x1 : Int32} {S : gS} {H : Heap} {locs : List Loc} {ls : Array Slot} {o : Int32 × gS} (C : gC p s m args meth c cX3_skipSign 2 RX3 none D (xtys cI cB cZ cQ) xord g Am) (O : xsO g cI cB cZ cQ Am aK aV) (X : gX D (xcell g cI cB cZ cQ) xord g S s H locs) (hl : lv_has ls 2 [(0, .ref (g 1)), (1, .int x1)]) (hF : fX3_skipSign_b0 N x1 S = some o) : W p l e (rmd 6) s m args below meth c H locs 0 0 (gE below args s D (xtys cI cB cZ cQ) (xcell g cI cB cZ cQ) xord g none o.2) (F0 m 0 ls []) := by
  unfold fX3_skipSign_b0 at hF
  refine lv_aload_n C.1.1 C.1.2.1 dX3_skipSign_0 rfl (lv_at hl 0 rfl) ?_
  refine xg_X3_12 C O.1 X (k := 1) rfl (j := 2) rfl dX3_skipSign_1 ?_
  refine lv_iload_n C.1.1 C.1.2.1 dX3_skipSign_4 rfl (lv_at hl 1 rfl) ?_
  obtain ⟨q1, hq1, hF⟩ := bnd_some hF
  refine x_callVi C X (k := 2) xv_X3_56 (rfl : xk 2 = 8) rfl rfl (by decide) (kX8_isAtSign O.1 C.2.2.2.2.1 N x1 S q1 hq1) (Nat.le_of_ble_eq_true rfl) (Nat.le_of_ble_eq_true rfl) (Nat.le_of_ble_eq_true rfl) (Nat.le_of_ble_eq_true rfl) rfl hl.1 rfl (Nat.le_of_ble_eq_true rfl) dX3_skipSign_5 (fun H locs X => ?_)
  refine lv_if_ne (tgt := 19) C.1.1 C.1.2.1 dX3_skipSign_8 (by decide) (fun h_z => ?_) (fun h_z => ?_)
  · rw [if_neg h_z] at hF
    exact bX3_skipSign_19 C O X (lv_sub hl [0] rfl) hF
  · rw [if_pos h_z] at hF
    exact bX3_skipSign_11 C O X (lv_sub hl [0] rfl) hF
noncomputable def fX3_skipSign (N : Nat) (x1 : Int32) (S : gS) : Option (Int32 × gS) := fX3_skipSign_b0 N x1 S
theorem kX3_skipSign {l : Launch} {D : va_G} {g : Nat → Nat} {cI cB cZ cQ : ClassId} {Am : (Nat → Prop) → State → Heap → Prop} {aK aV : Nat → Nat} (O : xsO g cI cB cZ cQ Am aK aV) (P : gAm Am) (N : Nat) (x1 : Int32) (S : gS) (o : Int32 × gS) (hF : fX3_skipSign N x1 S = some o) : gM l yX3_skipSign cX3_skipSign 2 none 6 D (xtys cI cB cZ cQ) (xcell g cI cB cZ cQ) xord g Am [.ref (g 1), .int x1] S none o.2 :=
  gM_of O.1.1 P (by decide) (Nat.le_of_ble_eq_true rfl) (fun p e s m args below meth c ls C X hl => bX3_skipSign_0 C O X (lv_sub hl [0, 1] rfl) hF)
-- X3.readNumber
noncomputable def fX3_readNumber_b61 (N : Nat) (x3 : Int32) (S : gS) : Option (Int32 × gS) := some (x3, S)
theorem bX3_readNumber_61 {N : Nat} {x3 : Int32} {S : gS} {H : Heap} {locs : List Loc} {ls : Array Slot} {o : Int32 × gS} (C : gC p s m args meth c cX3_readNumber 4 RX3 ((some .int)) D (xtys cI cB cZ cQ) xord g Am) (O : xsO g cI cB cZ cQ Am aK aV) (X : gX D (xcell g cI cB cZ cQ) xord g S s H locs) (hl : lv_has ls 4 [(3, .int x3)]) (hF : fX3_readNumber_b61 N x3 S = some o) : W p l e (rmd 6) s m args below meth c H locs 0 0 (gE below args s D (xtys cI cB cZ cQ) (xcell g cI cB cZ cQ) xord g (some (.int o.1)) o.2) (F0 m 61 ls []) := by
  unfold fX3_readNumber_b61 at hF
  refine lv_iload_n C.1.1 C.1.2.1 dX3_readNumber_61 rfl (lv_at hl 0 rfl) ?_
  cases hF
  exact g_iret C X dX3_readNumber_62
noncomputable def fX3_readNumber_b54 (N : Nat) (x3 : Int32) (S : gS) : Option (Int32 × gS) := bnd (fX8_advance N S) fun q1 => (fX3_readNumber_b61 N x3 q1.2)
theorem bX3_readNumber_54 {N : Nat} {x3 : Int32} {S : gS} {H : Heap} {locs : List Loc} {ls : Array Slot} {o : Int32 × gS} (C : gC p s m args meth c cX3_readNumber 4 RX3 ((some .int)) D (xtys cI cB cZ cQ) xord g Am) (O : xsO g cI cB cZ cQ Am aK aV) (X : gX D (xcell g cI cB cZ cQ) xord g S s H locs) (hl : lv_has ls 4 [(0, .ref (g 1)), (3, .int x3)]) (hF : fX3_readNumber_b54 N x3 S = some o) : W p l e (rmd 6) s m args below meth c H locs 0 0 (gE below args s D (xtys cI cB cZ cQ) (xcell g cI cB cZ cQ) xord g (some (.int o.1)) o.2) (F0 m 54 ls []) := by
  unfold fX3_readNumber_b54 at hF
  refine lv_aload_n C.1.1 C.1.2.1 dX3_readNumber_54 rfl (lv_at hl 0 rfl) ?_
  refine xg_X3_12 C O.1 X (k := 1) rfl (j := 2) rfl dX3_readNumber_55 ?_
  obtain ⟨q1, hq1, hF⟩ := bnd_some hF
  refine x_callV C X (k := 2) xv_X3_63 (rfl : xk 2 = 8) rfl rfl (by decide) (kX8_advance O C.2.2.2.2.1 N S q1 hq1) (Nat.le_of_ble_eq_true rfl) (Nat.le_of_ble_eq_true rfl) (Nat.le_of_ble_eq_true rfl) (Nat.le_of_ble_eq_true rfl) rfl hl.1 rfl (Nat.le_of_ble_eq_true rfl) dX3_readNumber_58 (fun H locs X => ?_)
  exact bX3_readNumber_61 C O X (lv_sub hl [1] rfl) hF
noncomputable def fX3_readNumber_b39 (N : Nat) (S : gS) : Option (Int32 × gS) := bnd (fX3_isFine N S) fun q1 => (if q1.1 = 0 then fX3_readNumber_b61 N (S 2 6) q1.2 else fX3_readNumber_b54 N (S 2 6) q1.2)
theorem bX3_readNumber_39 {N : Nat} {S : gS} {H : Heap} {locs : List Loc} {ls : Array Slot} {o : Int32 × gS} (C : gC p s m args meth c cX3_readNumber 4 RX3 ((some .int)) D (xtys cI cB cZ cQ) xord g Am) (O : xsO g cI cB cZ cQ Am aK aV) (X : gX D (xcell g cI cB cZ cQ) xord g S s H locs) (hl : lv_has ls 4 [(0, .ref (g 1))]) (hF : fX3_readNumber_b39 N S = some o) : W p l e (rmd 6) s m args below meth c H locs 0 0 (gE below args s D (xtys cI cB cZ cQ) (xcell g cI cB cZ cQ) xord g (some (.int o.1)) o.2) (F0 m 39 ls []) := by
  unfold fX3_readNumber_b39 at hF
  refine lv_aload_n C.1.1 C.1.2.1 dX3_readNumber_39 rfl (lv_at hl 0 rfl) ?_
  refine xg_X3_12 C O.1 X (k := 1) rfl (j := 2) rfl dX3_readNumber_40 ?_
  refine xg_X3_66 C O.1 X (k := 2) rfl dX3_readNumber_43 ?_
  refine lv_istore_n (lv' := [(3, .int (S 2 6)), (0, .ref (g 1))]) C.1.1 C.1.2.1 dX3_readNumber_46 rfl hl (by decide) rfl (fun ls hl => ?_)
  refine lv_aload_n C.1.1 C.1.2.1 dX3_readNumber_47 rfl (lv_at hl 1 rfl) ?_
  obtain ⟨q1, hq1, hF⟩ := bnd_some hF
  refine x_callVi C X (k := 1) xv_X3_39 (rfl : xk 1 = 3) rfl rfl (by decide) (kX3_isFine O.1 C.2.2.2.2.1 N S q1 hq1) (Nat.le_of_ble_eq_true rfl) (Nat.le_of_ble_eq_true rfl) (Nat.le_of_ble_eq_true rfl) (Nat.le_of_ble_eq_true rfl) rfl hl.1 rfl (Nat.le_of_ble_eq_true rfl) dX3_readNumber_48 (fun H locs X => ?_)
  refine lv_if_eq (tgt := 61) C.1.1 C.1.2.1 dX3_readNumber_51 (by decide) (fun h_z => ?_) (fun h_z => ?_)
  · rw [if_pos h_z] at hF
    exact bX3_readNumber_61 C O X (lv_sub hl [0] rfl) hF
  · rw [if_neg h_z] at hF
    exact bX3_readNumber_54 C O X (lv_sub hl [1, 0] rfl) hF
noncomputable def fX3_readNumber_b34 (N : Nat) (S : gS) : Option (Int32 × gS) := bnd (fX3_refuse N 2 S) fun q1 => (fX3_readNumber_b39 N q1.2)
theorem bX3_readNumber_34 {N : Nat} {S : gS} {H : Heap} {locs : List Loc} {ls : Array Slot} {o : Int32 × gS} (C : gC p s m args meth c cX3_readNumber 4 RX3 ((some .int)) D (xtys cI cB cZ cQ) xord g Am) (O : xsO g cI cB cZ cQ Am aK aV) (X : gX D (xcell g cI cB cZ cQ) xord g S s H locs) (hl : lv_has ls 4 [(0, .ref (g 1))]) (hF : fX3_readNumber_b34 N S = some o) : W p l e (rmd 6) s m args below meth c H locs 0 0 (gE below args s D (xtys cI cB cZ cQ) (xcell g cI cB cZ cQ) xord g (some (.int o.1)) o.2) (F0 m 34 ls []) := by
  unfold fX3_readNumber_b34 at hF
  refine lv_aload_n C.1.1 C.1.2.1 dX3_readNumber_34 rfl (lv_at hl 0 rfl) ?_
  refine lv_iconst (v := 2) C.1.1 C.1.2.1 dX3_readNumber_35 (by decide) ?_
  obtain ⟨q1, hq1, hF⟩ := bnd_some hF
  refine x_callV C X (k := 1) xv_X3_60 (rfl : xk 1 = 3) rfl rfl (by decide) (kX3_refuse O.1 C.2.2.2.2.1 N 2 S q1 hq1) (Nat.le_of_ble_eq_true rfl) (Nat.le_of_ble_eq_true rfl) (Nat.le_of_ble_eq_true rfl) (Nat.le_of_ble_eq_true rfl) rfl hl.1 rfl (Nat.le_of_ble_eq_true rfl) dX3_readNumber_36 (fun H locs X => ?_)
  exact bX3_readNumber_39 C O X (lv_sub hl [0] rfl) hF
noncomputable def fX3_readNumber_b19 (N : Nat) (x1 : Int32) (x2 : Int32) (S : gS) : Option (Int32 × gS) := bnd (fX11_isWithin N (S 2 6) x1 x2 S) fun q1 => (if q1.1 = 0 then fX3_readNumber_b34 N q1.2 else fX3_readNumber_b39 N q1.2)
theorem bX3_readNumber_19 {N : Nat} {x1 : Int32} {x2 : Int32} {S : gS} {H : Heap} {locs : List Loc} {ls : Array Slot} {o : Int32 × gS} (C : gC p s m args meth c cX3_readNumber 4 RX3 ((some .int)) D (xtys cI cB cZ cQ) xord g Am) (O : xsO g cI cB cZ cQ Am aK aV) (X : gX D (xcell g cI cB cZ cQ) xord g S s H locs) (hl : lv_has ls 4 [(0, .ref (g 1)), (1, .int x1), (2, .int x2)]) (hF : fX3_readNumber_b19 N x1 x2 S = some o) : W p l e (rmd 6) s m args below meth c H locs 0 0 (gE below args s D (xtys cI cB cZ cQ) (xcell g cI cB cZ cQ) xord g (some (.int o.1)) o.2) (F0 m 19 ls []) := by
  unfold fX3_readNumber_b19 at hF
  refine lv_aload_n C.1.1 C.1.2.1 dX3_readNumber_19 rfl (lv_at hl 0 rfl) ?_
  refine xg_X3_12 C O.1 X (k := 1) rfl (j := 2) rfl dX3_readNumber_20 ?_
  refine xg_X3_66 C O.1 X (k := 2) rfl dX3_readNumber_23 ?_
  refine lv_iload_n C.1.1 C.1.2.1 dX3_readNumber_26 rfl (lv_at hl 1 rfl) ?_
  refine lv_iload_n C.1.1 C.1.2.1 dX3_readNumber_27 rfl (lv_at hl 2 rfl) ?_
  obtain ⟨q1, hq1, hF⟩ := bnd_some hF
  refine g_callSNi C X xv_X3_69 (O.1.2 _ _ _ C.2.2.2.2.2 _ xn_X3_69) (kX11_isWithin O.1 C.2.2.2.2.1 N (S 2 6) x1 x2 S q1 hq1) (Nat.le_of_ble_eq_true rfl) (Nat.le_of_ble_eq_true rfl) (Nat.le_of_ble_eq_true rfl) (Nat.le_of_ble_eq_true rfl) rfl hl.1 rfl (Nat.le_of_ble_eq_true rfl) dX3_readNumber_28 (fun H locs X => ?_)
  refine lv_if_ne (tgt := 39) C.1.1 C.1.2.1 dX3_readNumber_31 (by decide) (fun h_z => ?_) (fun h_z => ?_)
  · rw [if_neg h_z] at hF
    exact bX3_readNumber_39 C O X (lv_sub hl [0] rfl) hF
  · rw [if_pos h_z] at hF
    exact bX3_readNumber_34 C O X (lv_sub hl [0] rfl) hF
noncomputable def fX3_readNumber_b11 (N : Nat) (S : gS) : Option (Int32 × gS) := bnd (fX3_refuse N 1 S) fun q1 => (fX3_readNumber_b39 N q1.2)
theorem bX3_readNumber_11 {N : Nat} {S : gS} {H : Heap} {locs : List Loc} {ls : Array Slot} {o : Int32 × gS} (C : gC p s m args meth c cX3_readNumber 4 RX3 ((some .int)) D (xtys cI cB cZ cQ) xord g Am) (O : xsO g cI cB cZ cQ Am aK aV) (X : gX D (xcell g cI cB cZ cQ) xord g S s H locs) (hl : lv_has ls 4 [(0, .ref (g 1))]) (hF : fX3_readNumber_b11 N S = some o) : W p l e (rmd 6) s m args below meth c H locs 0 0 (gE below args s D (xtys cI cB cZ cQ) (xcell g cI cB cZ cQ) xord g (some (.int o.1)) o.2) (F0 m 11 ls []) := by
  unfold fX3_readNumber_b11 at hF
  refine lv_aload_n C.1.1 C.1.2.1 dX3_readNumber_11 rfl (lv_at hl 0 rfl) ?_
  refine lv_iconst (v := 1) C.1.1 C.1.2.1 dX3_readNumber_12 (by decide) ?_
  obtain ⟨q1, hq1, hF⟩ := bnd_some hF
  refine x_callV C X (k := 1) xv_X3_60 (rfl : xk 1 = 3) rfl rfl (by decide) (kX3_refuse O.1 C.2.2.2.2.1 N 1 S q1 hq1) (Nat.le_of_ble_eq_true rfl) (Nat.le_of_ble_eq_true rfl) (Nat.le_of_ble_eq_true rfl) (Nat.le_of_ble_eq_true rfl) rfl hl.1 rfl (Nat.le_of_ble_eq_true rfl) dX3_readNumber_13 (fun H locs X => ?_)
  refine lv_goto (tgt := 39) C.1.1 C.1.2.1 dX3_readNumber_16 (by decide) ?_
  exact bX3_readNumber_39 C O X (lv_sub hl [0] rfl) hF
noncomputable def fX3_readNumber_b0 (N : Nat) (x1 : Int32) (x2 : Int32) (S : gS) : Option (Int32 × gS) := if (S 2 4) = 2 then fX3_readNumber_b19 N x1 x2 S else fX3_readNumber_b11 N S
theorem bX3_readNumber_0 {N : Nat} {x1 : Int32} {x2 : Int32} {S : gS} {H : Heap} {locs : List Loc} {ls : Array Slot} {o : Int32 × gS} (C : gC p s m args meth c cX3_readNumber 4 RX3 ((some .int)) D (xtys cI cB cZ cQ) xord g Am) (O : xsO g cI cB cZ cQ Am aK aV) (X : gX D (xcell g cI cB cZ cQ) xord g S s H locs) (hl : lv_has ls 4 [(0, .ref (g 1)), (1, .int x1), (2, .int x2)]) (hF : fX3_readNumber_b0 N x1 x2 S = some o) : W p l e (rmd 6) s m args below meth c H locs 0 0 (gE below args s D (xtys cI cB cZ cQ) (xcell g cI cB cZ cQ) xord g (some (.int o.1)) o.2) (F0 m 0 ls []) := by
  unfold fX3_readNumber_b0 at hF
  refine lv_aload_n C.1.1 C.1.2.1 dX3_readNumber_0 rfl (lv_at hl 0 rfl) ?_
  refine xg_X3_12 C O.1 X (k := 1) rfl (j := 2) rfl dX3_readNumber_1 ?_
  refine xg_X3_43 C O.1 X (k := 2) rfl dX3_readNumber_4 ?_
  refine lv_iconst (v := 2) C.1.1 C.1.2.1 dX3_readNumber_7 (by decide) ?_
  refine lv_icmp_eq (tgt := 19) C.1.1 C.1.2.1 dX3_readNumber_8 (by decide) (fun h_z => ?_) (fun h_z => ?_)
  · rw [if_pos h_z] at hF
    exact bX3_readNumber_19 C O X (lv_sub hl [0, 1, 2] rfl) hF
  · rw [if_neg h_z] at hF
    exact bX3_readNumber_11 C O X (lv_sub hl [0] rfl) hF
noncomputable def fX3_readNumber (N : Nat) (x1 : Int32) (x2 : Int32) (S : gS) : Option (Int32 × gS) := fX3_readNumber_b0 N x1 x2 S
theorem kX3_readNumber {l : Launch} {D : va_G} {g : Nat → Nat} {cI cB cZ cQ : ClassId} {Am : (Nat → Prop) → State → Heap → Prop} {aK aV : Nat → Nat} (O : xsO g cI cB cZ cQ Am aK aV) (P : gAm Am) (N : Nat) (x1 : Int32) (x2 : Int32) (S : gS) (o : Int32 × gS) (hF : fX3_readNumber N x1 x2 S = some o) : gM l yX3_readNumber cX3_readNumber 4 ((some .int)) 6 D (xtys cI cB cZ cQ) (xcell g cI cB cZ cQ) xord g Am [.ref (g 1), .int x1, .int x2] S (some (.int o.1)) o.2 :=
  gM_of O.1.1 P (by decide) (Nat.le_of_ble_eq_true rfl) (fun p e s m args below meth c ls C X hl => bX3_readNumber_0 C O X (lv_sub hl [0, 1, 2] rfl) hF)
-- X3.readGrotto
noncomputable def fX3_readGrotto_b20 (N : Nat) (x1 : Int32) (x2 : Int32) (S : gS) : Option (Int32 × gS) := bnd (fX8_advance N S) fun q1 => (lt (xdr q1.2) fun T1 => (bnd (fX3_readNumber N 1 12 q1.2) fun q2 => (chk (inb x2 8) (lt (sU q2.2 (T1 + 1) (Int32.toNatClampNeg x2) q2.1) fun S1 => (lt (xdr S1) fun T2 => (bnd (fX3_readNumber N 0 11 S1) fun q3 => (chk (inb x2 8) (lt (sU q3.2 (T2 + 2) (Int32.toNatClampNeg x2) q3.1) fun S2 => (lt (xdr S2) fun T3 => (bnd (fX3_readNumber N 0 20 S2) fun q4 => (chk (inb x2 8) (lt (sU q4.2 (T3 + 3) (Int32.toNatClampNeg x2) q4.1) fun S3 => (lt (xdr S3) fun T4 => (chk (inb x2 8) (lt (sU S3 (T4 + 4) (Int32.toNatClampNeg x2) (vp_nar .boolean x1)) fun S4 => (lt (xdr S4) fun T5 => (lt (sU S4 T5 0 (((S4 T5 0) + 1 : Int32))) fun S5 => (some (0, S5)))))))))))))))))))
theorem bX3_readGrotto_20 {N : Nat} {x1 : Int32} {x2 : Int32} {S : gS} {H : Heap} {locs : List Loc} {ls : Array Slot} {o : Int32 × gS} (C : gC p s m args meth c cX3_readGrotto 3 RX3 none D (xtys cI cB cZ cQ) xord g Am) (O : xsO g cI cB cZ cQ Am aK aV) (X : gX D (xcell g cI cB cZ cQ) xord g S s H locs) (hl : lv_has ls 3 [(0, .ref (g 1)), (1, .int x1), (2, .int x2)]) (hF : fX3_readGrotto_b20 N x1 x2 S = some o) : W p l e (rmd 7) s m args below meth c H locs 0 0 (gE below args s D (xtys cI cB cZ cQ) (xcell g cI cB cZ cQ) xord g none o.2) (F0 m 20 ls []) := by
  unfold fX3_readGrotto_b20 at hF
  refine lv_aload_n C.1.1 C.1.2.1 dX3_readGrotto_20 rfl (lv_at hl 0 rfl) ?_
  refine xg_X3_12 C O.1 X (k := 1) rfl (j := 2) rfl dX3_readGrotto_21 ?_
  obtain ⟨q1, hq1, hF⟩ := bnd_some hF
  refine x_callV C X (k := 2) xv_X3_63 (rfl : xk 2 = 8) rfl rfl (by decide) (kX8_advance O C.2.2.2.2.1 N S q1 hq1) (Nat.le_of_ble_eq_true rfl) (Nat.le_of_ble_eq_true rfl) (Nat.le_of_ble_eq_true rfl) (Nat.le_of_ble_eq_true rfl) rfl hl.1 rfl (Nat.le_of_ble_eq_true rfl) dX3_readGrotto_24 (fun H locs X => ?_)
  refine lv_aload_n C.1.1 C.1.2.1 dX3_readGrotto_27 rfl (lv_at hl 0 rfl) ?_
  obtain ⟨T1, eT1, hF⟩ := lt_some hF
  have hk_T1 := xdr_k eT1
  refine xg_X3_21 C O.1 X (T := T1) eT1 (k := 1) rfl dX3_readGrotto_28 ?_
  refine xg_X3_116 C O.1 X (k := T1) hk_T1 (j := T1 + 1) rfl dX3_readGrotto_31 ?_
  refine lv_iload_n C.1.1 C.1.2.1 dX3_readGrotto_34 rfl (lv_at hl 2 rfl) ?_
  refine lv_aload_n C.1.1 C.1.2.1 dX3_readGrotto_35 rfl (lv_at hl 0 rfl) ?_
  refine lv_iconst (v := 1) C.1.1 C.1.2.1 dX3_readGrotto_36 (by decide) ?_
  refine lv_bipush (v := 12) C.1.1 C.1.2.1 dX3_readGrotto_37 (by decide) ?_
  obtain ⟨q2, hq2, hF⟩ := bnd_some hF
  refine x_callVi C X (k := 1) xv_X3_120 (rfl : xk 1 = 3) rfl rfl (by decide) (kX3_readNumber O C.2.2.2.2.1 N 1 12 q1.2 q2 hq2) (Nat.le_of_ble_eq_true rfl) (Nat.le_of_ble_eq_true rfl) (Nat.le_of_ble_eq_true rfl) (Nat.le_of_ble_eq_true rfl) rfl hl.1 rfl (Nat.le_of_ble_eq_true rfl) dX3_readGrotto_39 (fun H locs X => ?_)
  obtain ⟨h_1, hF⟩ := chk_some hF
  obtain ⟨S1, eS1, hF⟩ := lt_some hF
  refine x_wI C O.1 X (k := T1 + 1) (xs_9_1 hk_T1).1 (n := 8) (xs_9_1 hk_T1).2  (inb_vp h_1) rfl eS1 dX3_readGrotto_42 (fun H locs X => ?_)
  refine lv_aload_n C.1.1 C.1.2.1 dX3_readGrotto_43 rfl (lv_at hl 0 rfl) ?_
  obtain ⟨T2, eT2, hF⟩ := lt_some hF
  have hk_T2 := xdr_k eT2
  refine xg_X3_21 C O.1 X (T := T2) eT2 (k := 1) rfl dX3_readGrotto_44 ?_
  refine xg_X3_124 C O.1 X (k := T2) hk_T2 (j := T2 + 2) rfl dX3_readGrotto_47 ?_
  refine lv_iload_n C.1.1 C.1.2.1 dX3_readGrotto_50 rfl (lv_at hl 2 rfl) ?_
  refine lv_aload_n C.1.1 C.1.2.1 dX3_readGrotto_51 rfl (lv_at hl 0 rfl) ?_
  refine lv_iconst (v := 0) C.1.1 C.1.2.1 dX3_readGrotto_52 (by decide) ?_
  refine lv_bipush (v := 11) C.1.1 C.1.2.1 dX3_readGrotto_53 (by decide) ?_
  obtain ⟨q3, hq3, hF⟩ := bnd_some hF
  refine x_callVi C X (k := 1) xv_X3_120 (rfl : xk 1 = 3) rfl rfl (by decide) (kX3_readNumber O C.2.2.2.2.1 N 0 11 S1 q3 hq3) (Nat.le_of_ble_eq_true rfl) (Nat.le_of_ble_eq_true rfl) (Nat.le_of_ble_eq_true rfl) (Nat.le_of_ble_eq_true rfl) rfl hl.1 rfl (Nat.le_of_ble_eq_true rfl) dX3_readGrotto_55 (fun H locs X => ?_)
  obtain ⟨h_2, hF⟩ := chk_some hF
  obtain ⟨S2, eS2, hF⟩ := lt_some hF
  refine x_wI C O.1 X (k := T2 + 2) (xs_9_2 hk_T2).1 (n := 8) (xs_9_2 hk_T2).2  (inb_vp h_2) rfl eS2 dX3_readGrotto_58 (fun H locs X => ?_)
  refine lv_aload_n C.1.1 C.1.2.1 dX3_readGrotto_59 rfl (lv_at hl 0 rfl) ?_
  obtain ⟨T3, eT3, hF⟩ := lt_some hF
  have hk_T3 := xdr_k eT3
  refine xg_X3_21 C O.1 X (T := T3) eT3 (k := 1) rfl dX3_readGrotto_60 ?_
  refine xg_X3_127 C O.1 X (k := T3) hk_T3 (j := T3 + 3) rfl dX3_readGrotto_63 ?_
  refine lv_iload_n C.1.1 C.1.2.1 dX3_readGrotto_66 rfl (lv_at hl 2 rfl) ?_
  refine lv_aload_n C.1.1 C.1.2.1 dX3_readGrotto_67 rfl (lv_at hl 0 rfl) ?_
  refine lv_iconst (v := 0) C.1.1 C.1.2.1 dX3_readGrotto_68 (by decide) ?_
  refine lv_bipush (v := 20) C.1.1 C.1.2.1 dX3_readGrotto_69 (by decide) ?_
  obtain ⟨q4, hq4, hF⟩ := bnd_some hF
  refine x_callVi C X (k := 1) xv_X3_120 (rfl : xk 1 = 3) rfl rfl (by decide) (kX3_readNumber O C.2.2.2.2.1 N 0 20 S2 q4 hq4) (Nat.le_of_ble_eq_true rfl) (Nat.le_of_ble_eq_true rfl) (Nat.le_of_ble_eq_true rfl) (Nat.le_of_ble_eq_true rfl) rfl hl.1 rfl (Nat.le_of_ble_eq_true rfl) dX3_readGrotto_71 (fun H locs X => ?_)
  obtain ⟨h_3, hF⟩ := chk_some hF
  obtain ⟨S3, eS3, hF⟩ := lt_some hF
  refine x_wI C O.1 X (k := T3 + 3) (xs_9_3 hk_T3).1 (n := 8) (xs_9_3 hk_T3).2  (inb_vp h_3) rfl eS3 dX3_readGrotto_74 (fun H locs X => ?_)
  refine lv_aload_n C.1.1 C.1.2.1 dX3_readGrotto_75 rfl (lv_at hl 0 rfl) ?_
  obtain ⟨T4, eT4, hF⟩ := lt_some hF
  have hk_T4 := xdr_k eT4
  refine xg_X3_21 C O.1 X (T := T4) eT4 (k := 1) rfl dX3_readGrotto_76 ?_
  refine xg_X3_130 C O.1 X (k := T4) hk_T4 (j := T4 + 4) rfl dX3_readGrotto_79 ?_
  refine lv_iload_n C.1.1 C.1.2.1 dX3_readGrotto_82 rfl (lv_at hl 2 rfl) ?_
  refine lv_iload_n C.1.1 C.1.2.1 dX3_readGrotto_83 rfl (lv_at hl 1 rfl) ?_
  obtain ⟨h_4, hF⟩ := chk_some hF
  obtain ⟨S4, eS4, hF⟩ := lt_some hF
  refine x_wZ C O.1 X (k := T4 + 4) (xs_9_4 hk_T4).1 (n := 8) (xs_9_4 hk_T4).2  (inb_vp h_4) rfl eS4 dX3_readGrotto_84 (fun H locs X => ?_)
  refine lv_aload_n C.1.1 C.1.2.1 dX3_readGrotto_85 rfl (lv_at hl 0 rfl) ?_
  obtain ⟨T5, eT5, hF⟩ := lt_some hF
  have hk_T5 := xdr_k eT5
  refine xg_X3_21 C O.1 X (T := T5) eT5 (k := 1) rfl dX3_readGrotto_86 ?_
  refine lv_dup C.1.1 C.1.2.1 dX3_readGrotto_89 rfl ?_
  refine xg_X3_113 C O.1 X (k := T5) hk_T5 dX3_readGrotto_90 ?_
  refine lv_iconst (v := 1) C.1.1 C.1.2.1 dX3_readGrotto_93 (by decide) ?_
  refine lv_iadd C.1.1 C.1.2.1 dX3_readGrotto_94 ?_
  obtain ⟨S5, eS5, hF⟩ := lt_some hF
  refine xp_X3_113 C O.1 X (k := T5) hk_T5 eS5 dX3_readGrotto_95 (fun H locs X => ?_)
  cases hF
  exact g_vret C X dX3_readGrotto_98
noncomputable def fX3_readGrotto_b14 (N : Nat) (S : gS) : Option (Int32 × gS) := bnd (fX3_refuse N 2 S) fun q1 => (some (0, q1.2))
theorem bX3_readGrotto_14 {N : Nat} {S : gS} {H : Heap} {locs : List Loc} {ls : Array Slot} {o : Int32 × gS} (C : gC p s m args meth c cX3_readGrotto 3 RX3 none D (xtys cI cB cZ cQ) xord g Am) (O : xsO g cI cB cZ cQ Am aK aV) (X : gX D (xcell g cI cB cZ cQ) xord g S s H locs) (hl : lv_has ls 3 [(0, .ref (g 1))]) (hF : fX3_readGrotto_b14 N S = some o) : W p l e (rmd 7) s m args below meth c H locs 0 0 (gE below args s D (xtys cI cB cZ cQ) (xcell g cI cB cZ cQ) xord g none o.2) (F0 m 14 ls []) := by
  unfold fX3_readGrotto_b14 at hF
  refine lv_aload_n C.1.1 C.1.2.1 dX3_readGrotto_14 rfl (lv_at hl 0 rfl) ?_
  refine lv_iconst (v := 2) C.1.1 C.1.2.1 dX3_readGrotto_15 (by decide) ?_
  obtain ⟨q1, hq1, hF⟩ := bnd_some hF
  refine x_callV C X (k := 1) xv_X3_60 (rfl : xk 1 = 3) rfl rfl (by decide) (kX3_refuse O.1 C.2.2.2.2.1 N 2 S q1 hq1) (Nat.le_of_ble_eq_true rfl) (Nat.le_of_ble_eq_true rfl) (Nat.le_of_ble_eq_true rfl) (Nat.le_of_ble_eq_true rfl) rfl hl.1 rfl (Nat.le_of_ble_eq_true rfl) dX3_readGrotto_16 (fun H locs X => ?_)
  cases hF
  exact g_vret C X dX3_readGrotto_19
noncomputable def fX3_readGrotto_b0 (N : Nat) (x1 : Int32) (S : gS) : Option (Int32 × gS) := lt (xdr S) fun T1 => (if (S T1 0) < 8 then fX3_readGrotto_b20 N x1 (S T1 0) S else fX3_readGrotto_b14 N S)
theorem bX3_readGrotto_0 {N : Nat} {x1 : Int32} {S : gS} {H : Heap} {locs : List Loc} {ls : Array Slot} {o : Int32 × gS} (C : gC p s m args meth c cX3_readGrotto 3 RX3 none D (xtys cI cB cZ cQ) xord g Am) (O : xsO g cI cB cZ cQ Am aK aV) (X : gX D (xcell g cI cB cZ cQ) xord g S s H locs) (hl : lv_has ls 3 [(0, .ref (g 1)), (1, .int x1)]) (hF : fX3_readGrotto_b0 N x1 S = some o) : W p l e (rmd 7) s m args below meth c H locs 0 0 (gE below args s D (xtys cI cB cZ cQ) (xcell g cI cB cZ cQ) xord g none o.2) (F0 m 0 ls []) := by
  unfold fX3_readGrotto_b0 at hF
  refine lv_aload_n C.1.1 C.1.2.1 dX3_readGrotto_0 rfl (lv_at hl 0 rfl) ?_
  obtain ⟨T1, eT1, hF⟩ := lt_some hF
  have hk_T1 := xdr_k eT1
  refine xg_X3_21 C O.1 X (T := T1) eT1 (k := 1) rfl dX3_readGrotto_1 ?_
  refine xg_X3_113 C O.1 X (k := T1) hk_T1 dX3_readGrotto_4 ?_
  refine lv_istore_n (lv' := [(2, .int (S T1 0)), (0, .ref (g 1)), (1, .int x1)]) C.1.1 C.1.2.1 dX3_readGrotto_7 rfl hl (by decide) rfl (fun ls hl => ?_)
  refine lv_iload_n C.1.1 C.1.2.1 dX3_readGrotto_8 rfl (lv_at hl 0 rfl) ?_
  refine lv_bipush (v := 8) C.1.1 C.1.2.1 dX3_readGrotto_9 (by decide) ?_
  refine lv_icmp_lt (tgt := 20) C.1.1 C.1.2.1 dX3_readGrotto_11 (by decide) (fun h_z => ?_) (fun h_z => ?_)
  · rw [if_pos h_z] at hF
    exact bX3_readGrotto_20 C O X (lv_sub hl [1, 2, 0] rfl) hF
  · rw [if_neg h_z] at hF
    exact bX3_readGrotto_14 C O X (lv_sub hl [1] rfl) hF
noncomputable def fX3_readGrotto (N : Nat) (x1 : Int32) (S : gS) : Option (Int32 × gS) := fX3_readGrotto_b0 N x1 S
theorem kX3_readGrotto {l : Launch} {D : va_G} {g : Nat → Nat} {cI cB cZ cQ : ClassId} {Am : (Nat → Prop) → State → Heap → Prop} {aK aV : Nat → Nat} (O : xsO g cI cB cZ cQ Am aK aV) (P : gAm Am) (N : Nat) (x1 : Int32) (S : gS) (o : Int32 × gS) (hF : fX3_readGrotto N x1 S = some o) : gM l yX3_readGrotto cX3_readGrotto 3 none 7 D (xtys cI cB cZ cQ) (xcell g cI cB cZ cQ) xord g Am [.ref (g 1), .int x1] S none o.2 :=
  gM_of O.1.1 P (by decide) (Nat.le_of_ble_eq_true rfl) (fun p e s m args below meth c ls C X hl => bX3_readGrotto_0 C O X (lv_sub hl [0, 1] rfl) hF)
-- X3.readHired
noncomputable def fX3_readHired_b71 (N : Nat) (S : gS) : Option (Int32 × gS) := bnd (fX3_readNumber N 0 9999 S) fun q1 => (some (q1.1, q1.2))
theorem bX3_readHired_71 {N : Nat} {S : gS} {H : Heap} {locs : List Loc} {ls : Array Slot} {o : Int32 × gS} (C : gC p s m args meth c cX3_readHired 1 RX3 ((some .int)) D (xtys cI cB cZ cQ) xord g Am) (O : xsO g cI cB cZ cQ Am aK aV) (X : gX D (xcell g cI cB cZ cQ) xord g S s H locs) (hl : lv_has ls 1 [(0, .ref (g 1))]) (hF : fX3_readHired_b71 N S = some o) : W p l e (rmd 7) s m args below meth c H locs 0 0 (gE below args s D (xtys cI cB cZ cQ) (xcell g cI cB cZ cQ) xord g (some (.int o.1)) o.2) (F0 m 71 ls []) := by
  unfold fX3_readHired_b71 at hF
  refine lv_aload_n C.1.1 C.1.2.1 dX3_readHired_71 rfl (lv_at hl 0 rfl) ?_
  refine lv_iconst (v := 0) C.1.1 C.1.2.1 dX3_readHired_72 (by decide) ?_
  refine lv_sipush (v := 9999) C.1.1 C.1.2.1 dX3_readHired_73 (by decide) ?_
  obtain ⟨q1, hq1, hF⟩ := bnd_some hF
  refine x_callVi C X (k := 1) xv_X3_120 (rfl : xk 1 = 3) rfl rfl (by decide) (kX3_readNumber O C.2.2.2.2.1 N 0 9999 S q1 hq1) (Nat.le_of_ble_eq_true rfl) (Nat.le_of_ble_eq_true rfl) (Nat.le_of_ble_eq_true rfl) (Nat.le_of_ble_eq_true rfl) rfl hl.1 rfl (Nat.le_of_ble_eq_true rfl) dX3_readHired_76 (fun H locs X => ?_)
  cases hF
  exact g_iret C X dX3_readHired_79
noncomputable def fX3_readHired_b66 (N : Nat) (S : gS) : Option (Int32 × gS) := bnd (fX3_refuse N 4 S) fun q1 => (fX3_readHired_b71 N q1.2)
theorem bX3_readHired_66 {N : Nat} {S : gS} {H : Heap} {locs : List Loc} {ls : Array Slot} {o : Int32 × gS} (C : gC p s m args meth c cX3_readHired 1 RX3 ((some .int)) D (xtys cI cB cZ cQ) xord g Am) (O : xsO g cI cB cZ cQ Am aK aV) (X : gX D (xcell g cI cB cZ cQ) xord g S s H locs) (hl : lv_has ls 1 [(0, .ref (g 1))]) (hF : fX3_readHired_b66 N S = some o) : W p l e (rmd 7) s m args below meth c H locs 0 0 (gE below args s D (xtys cI cB cZ cQ) (xcell g cI cB cZ cQ) xord g (some (.int o.1)) o.2) (F0 m 66 ls []) := by
  unfold fX3_readHired_b66 at hF
  refine lv_aload_n C.1.1 C.1.2.1 dX3_readHired_66 rfl (lv_at hl 0 rfl) ?_
  refine lv_iconst (v := 4) C.1.1 C.1.2.1 dX3_readHired_67 (by decide) ?_
  obtain ⟨q1, hq1, hF⟩ := bnd_some hF
  refine x_callV C X (k := 1) xv_X3_60 (rfl : xk 1 = 3) rfl rfl (by decide) (kX3_refuse O.1 C.2.2.2.2.1 N 4 S q1 hq1) (Nat.le_of_ble_eq_true rfl) (Nat.le_of_ble_eq_true rfl) (Nat.le_of_ble_eq_true rfl) (Nat.le_of_ble_eq_true rfl) rfl hl.1 rfl (Nat.le_of_ble_eq_true rfl) dX3_readHired_68 (fun H locs X => ?_)
  exact bX3_readHired_71 C O X (lv_sub hl [0] rfl) hF
noncomputable def fX3_readHired_b49 (N : Nat) (S : gS) : Option (Int32 × gS) := lt (xdr S) fun T1 => (bnd (fX9_isHired N T1 (S 2 6) S) fun q1 => (if q1.1 = 0 then fX3_readHired_b71 N q1.2 else fX3_readHired_b66 N q1.2))
theorem bX3_readHired_49 {N : Nat} {S : gS} {H : Heap} {locs : List Loc} {ls : Array Slot} {o : Int32 × gS} (C : gC p s m args meth c cX3_readHired 1 RX3 ((some .int)) D (xtys cI cB cZ cQ) xord g Am) (O : xsO g cI cB cZ cQ Am aK aV) (X : gX D (xcell g cI cB cZ cQ) xord g S s H locs) (hl : lv_has ls 1 [(0, .ref (g 1))]) (hF : fX3_readHired_b49 N S = some o) : W p l e (rmd 7) s m args below meth c H locs 0 0 (gE below args s D (xtys cI cB cZ cQ) (xcell g cI cB cZ cQ) xord g (some (.int o.1)) o.2) (F0 m 49 ls []) := by
  unfold fX3_readHired_b49 at hF
  refine lv_aload_n C.1.1 C.1.2.1 dX3_readHired_49 rfl (lv_at hl 0 rfl) ?_
  obtain ⟨T1, eT1, hF⟩ := lt_some hF
  have hk_T1 := xdr_k eT1
  refine xg_X3_21 C O.1 X (T := T1) eT1 (k := 1) rfl dX3_readHired_50 ?_
  refine lv_aload_n C.1.1 C.1.2.1 dX3_readHired_53 rfl (lv_at hl 0 rfl) ?_
  refine xg_X3_12 C O.1 X (k := 1) rfl (j := 2) rfl dX3_readHired_54 ?_
  refine xg_X3_66 C O.1 X (k := 2) rfl dX3_readHired_57 ?_
  obtain ⟨q1, hq1, hF⟩ := bnd_some hF
  refine x_callVi C X (k := T1) xv_X3_158 hk_T1 rfl rfl (by decide) (kX9_isHired O.1 C.2.2.2.2.1 N T1 (S 2 6) (hk_T1 : xk T1 = 9) S q1 hq1) (Nat.le_of_ble_eq_true rfl) (Nat.le_of_ble_eq_true rfl) (Nat.le_of_ble_eq_true rfl) (Nat.le_of_ble_eq_true rfl) rfl hl.1 rfl (Nat.le_of_ble_eq_true rfl) dX3_readHired_60 (fun H locs X => ?_)
  refine lv_if_eq (tgt := 71) C.1.1 C.1.2.1 dX3_readHired_63 (by decide) (fun h_z => ?_) (fun h_z => ?_)
  · rw [if_pos h_z] at hF
    exact bX3_readHired_71 C O X (lv_sub hl [0] rfl) hF
  · rw [if_neg h_z] at hF
    exact bX3_readHired_66 C O X (lv_sub hl [0] rfl) hF
noncomputable def fX3_readHired_b41 (N : Nat) (S : gS) : Option (Int32 × gS) := bnd (fX3_refuse N 3 S) fun q1 => (fX3_readHired_b71 N q1.2)
theorem bX3_readHired_41 {N : Nat} {S : gS} {H : Heap} {locs : List Loc} {ls : Array Slot} {o : Int32 × gS} (C : gC p s m args meth c cX3_readHired 1 RX3 ((some .int)) D (xtys cI cB cZ cQ) xord g Am) (O : xsO g cI cB cZ cQ Am aK aV) (X : gX D (xcell g cI cB cZ cQ) xord g S s H locs) (hl : lv_has ls 1 [(0, .ref (g 1))]) (hF : fX3_readHired_b41 N S = some o) : W p l e (rmd 7) s m args below meth c H locs 0 0 (gE below args s D (xtys cI cB cZ cQ) (xcell g cI cB cZ cQ) xord g (some (.int o.1)) o.2) (F0 m 41 ls []) := by
  unfold fX3_readHired_b41 at hF
  refine lv_aload_n C.1.1 C.1.2.1 dX3_readHired_41 rfl (lv_at hl 0 rfl) ?_
  refine lv_iconst (v := 3) C.1.1 C.1.2.1 dX3_readHired_42 (by decide) ?_
  obtain ⟨q1, hq1, hF⟩ := bnd_some hF
  refine x_callV C X (k := 1) xv_X3_60 (rfl : xk 1 = 3) rfl rfl (by decide) (kX3_refuse O.1 C.2.2.2.2.1 N 3 S q1 hq1) (Nat.le_of_ble_eq_true rfl) (Nat.le_of_ble_eq_true rfl) (Nat.le_of_ble_eq_true rfl) (Nat.le_of_ble_eq_true rfl) rfl hl.1 rfl (Nat.le_of_ble_eq_true rfl) dX3_readHired_43 (fun H locs X => ?_)
  refine lv_goto (tgt := 71) C.1.1 C.1.2.1 dX3_readHired_46 (by decide) ?_
  exact bX3_readHired_71 C O X (lv_sub hl [0] rfl) hF
noncomputable def fX3_readHired_b24 (N : Nat) (S : gS) : Option (Int32 × gS) := lt (xdr S) fun T1 => (bnd (fX9_isGrotto N T1 (S 2 6) S) fun q1 => (if q1.1 = 0 then fX3_readHired_b41 N q1.2 else fX3_readHired_b49 N q1.2))
theorem bX3_readHired_24 {N : Nat} {S : gS} {H : Heap} {locs : List Loc} {ls : Array Slot} {o : Int32 × gS} (C : gC p s m args meth c cX3_readHired 1 RX3 ((some .int)) D (xtys cI cB cZ cQ) xord g Am) (O : xsO g cI cB cZ cQ Am aK aV) (X : gX D (xcell g cI cB cZ cQ) xord g S s H locs) (hl : lv_has ls 1 [(0, .ref (g 1))]) (hF : fX3_readHired_b24 N S = some o) : W p l e (rmd 7) s m args below meth c H locs 0 0 (gE below args s D (xtys cI cB cZ cQ) (xcell g cI cB cZ cQ) xord g (some (.int o.1)) o.2) (F0 m 24 ls []) := by
  unfold fX3_readHired_b24 at hF
  refine lv_aload_n C.1.1 C.1.2.1 dX3_readHired_24 rfl (lv_at hl 0 rfl) ?_
  obtain ⟨T1, eT1, hF⟩ := lt_some hF
  have hk_T1 := xdr_k eT1
  refine xg_X3_21 C O.1 X (T := T1) eT1 (k := 1) rfl dX3_readHired_25 ?_
  refine lv_aload_n C.1.1 C.1.2.1 dX3_readHired_28 rfl (lv_at hl 0 rfl) ?_
  refine xg_X3_12 C O.1 X (k := 1) rfl (j := 2) rfl dX3_readHired_29 ?_
  refine xg_X3_66 C O.1 X (k := 2) rfl dX3_readHired_32 ?_
  obtain ⟨q1, hq1, hF⟩ := bnd_some hF
  refine x_callVi C X (k := T1) xv_X3_154 hk_T1 rfl rfl (by decide) (kX9_isGrotto O.1 C.2.2.2.2.1 N T1 (S 2 6) (hk_T1 : xk T1 = 9) S q1 hq1) (Nat.le_of_ble_eq_true rfl) (Nat.le_of_ble_eq_true rfl) (Nat.le_of_ble_eq_true rfl) (Nat.le_of_ble_eq_true rfl) rfl hl.1 rfl (Nat.le_of_ble_eq_true rfl) dX3_readHired_35 (fun H locs X => ?_)
  refine lv_if_ne (tgt := 49) C.1.1 C.1.2.1 dX3_readHired_38 (by decide) (fun h_z => ?_) (fun h_z => ?_)
  · rw [if_neg h_z] at hF
    exact bX3_readHired_49 C O X (lv_sub hl [0] rfl) hF
  · rw [if_pos h_z] at hF
    exact bX3_readHired_41 C O X (lv_sub hl [0] rfl) hF
noncomputable def fX3_readHired_b11 (N : Nat) (S : gS) : Option (Int32 × gS) := if 9999 < (S 2 6) then fX3_readHired_b71 N S else fX3_readHired_b24 N S
theorem bX3_readHired_11 {N : Nat} {S : gS} {H : Heap} {locs : List Loc} {ls : Array Slot} {o : Int32 × gS} (C : gC p s m args meth c cX3_readHired 1 RX3 ((some .int)) D (xtys cI cB cZ cQ) xord g Am) (O : xsO g cI cB cZ cQ Am aK aV) (X : gX D (xcell g cI cB cZ cQ) xord g S s H locs) (hl : lv_has ls 1 [(0, .ref (g 1))]) (hF : fX3_readHired_b11 N S = some o) : W p l e (rmd 7) s m args below meth c H locs 0 0 (gE below args s D (xtys cI cB cZ cQ) (xcell g cI cB cZ cQ) xord g (some (.int o.1)) o.2) (F0 m 11 ls []) := by
  unfold fX3_readHired_b11 at hF
  refine lv_aload_n C.1.1 C.1.2.1 dX3_readHired_11 rfl (lv_at hl 0 rfl) ?_
  refine xg_X3_12 C O.1 X (k := 1) rfl (j := 2) rfl dX3_readHired_12 ?_
  refine xg_X3_66 C O.1 X (k := 2) rfl dX3_readHired_15 ?_
  refine lv_sipush (v := 9999) C.1.1 C.1.2.1 dX3_readHired_18 (by decide) ?_
  refine lv_icmp_gt (tgt := 71) C.1.1 C.1.2.1 dX3_readHired_21 (by decide) (fun h_z => ?_) (fun h_z => ?_)
  · rw [if_pos h_z] at hF
    exact bX3_readHired_71 C O X (lv_sub hl [0] rfl) hF
  · rw [if_neg h_z] at hF
    exact bX3_readHired_24 C O X (lv_sub hl [0] rfl) hF
noncomputable def fX3_readHired_b0 (N : Nat) (S : gS) : Option (Int32 × gS) := if (S 2 4) = 2 then fX3_readHired_b11 N S else fX3_readHired_b71 N S
theorem bX3_readHired_0 {N : Nat} {S : gS} {H : Heap} {locs : List Loc} {ls : Array Slot} {o : Int32 × gS} (C : gC p s m args meth c cX3_readHired 1 RX3 ((some .int)) D (xtys cI cB cZ cQ) xord g Am) (O : xsO g cI cB cZ cQ Am aK aV) (X : gX D (xcell g cI cB cZ cQ) xord g S s H locs) (hl : lv_has ls 1 [(0, .ref (g 1))]) (hF : fX3_readHired_b0 N S = some o) : W p l e (rmd 7) s m args below meth c H locs 0 0 (gE below args s D (xtys cI cB cZ cQ) (xcell g cI cB cZ cQ) xord g (some (.int o.1)) o.2) (F0 m 0 ls []) := by
  unfold fX3_readHired_b0 at hF
  refine lv_aload_n C.1.1 C.1.2.1 dX3_readHired_0 rfl (lv_at hl 0 rfl) ?_
  refine xg_X3_12 C O.1 X (k := 1) rfl (j := 2) rfl dX3_readHired_1 ?_
  refine xg_X3_43 C O.1 X (k := 2) rfl dX3_readHired_4 ?_
  refine lv_iconst (v := 2) C.1.1 C.1.2.1 dX3_readHired_7 (by decide) ?_
  refine lv_icmp_ne (tgt := 71) C.1.1 C.1.2.1 dX3_readHired_8 (by decide) (fun h_z => ?_) (fun h_z => ?_)
  · rw [if_neg h_z] at hF
    exact bX3_readHired_71 C O X (lv_sub hl [0] rfl) hF
  · rw [if_pos h_z] at hF
    exact bX3_readHired_11 C O X (lv_sub hl [0] rfl) hF
noncomputable def fX3_readHired (N : Nat) (S : gS) : Option (Int32 × gS) := fX3_readHired_b0 N S
theorem kX3_readHired {l : Launch} {D : va_G} {g : Nat → Nat} {cI cB cZ cQ : ClassId} {Am : (Nat → Prop) → State → Heap → Prop} {aK aV : Nat → Nat} (O : xsO g cI cB cZ cQ Am aK aV) (P : gAm Am) (N : Nat) (S : gS) (o : Int32 × gS) (hF : fX3_readHired N S = some o) : gM l yX3_readHired cX3_readHired 1 ((some .int)) 7 D (xtys cI cB cZ cQ) (xcell g cI cB cZ cQ) xord g Am [.ref (g 1)] S (some (.int o.1)) o.2 :=
  gM_of O.1.1 P (by decide) (Nat.le_of_ble_eq_true rfl) (fun p e s m args below meth c ls C X hl => bX3_readHired_0 C O X (lv_sub hl [0] rfl) hF)
-- X3.readWet
noncomputable def fX3_readWet_b122 (N : Nat) (S : gS) : Option (Int32 × gS) := some (0, S)
theorem bX3_readWet_122 {N : Nat} {S : gS} {H : Heap} {locs : List Loc} {ls : Array Slot} {o : Int32 × gS} (C : gC p s m args meth c cX3_readWet 2 RX3 none D (xtys cI cB cZ cQ) xord g Am) (O : xsO g cI cB cZ cQ Am aK aV) (X : gX D (xcell g cI cB cZ cQ) xord g S s H locs) (hl : lv_has ls 2 []) (hF : fX3_readWet_b122 N S = some o) : W p l e (rmd 7) s m args below meth c H locs 0 0 (gE below args s D (xtys cI cB cZ cQ) (xcell g cI cB cZ cQ) xord g none o.2) (F0 m 122 ls []) := by
  unfold fX3_readWet_b122 at hF
  cases hF
  exact g_vret C X dX3_readWet_122
noncomputable def fX3_readWet_b116 (N : Nat) (r49 : Int32 → gS → Option (Int32 × gS)) (x1 : Int32) (S : gS) : Option (Int32 × gS) := r49 ((x1 + 1 : Int32)) S
theorem bX3_readWet_116 {N : Nat} {r49 : Int32 → gS → Option (Int32 × gS)} {x1 : Int32} {S : gS} {H : Heap} {locs : List Loc} {ls : Array Slot} {o : Int32 × gS} (C : gC p s m args meth c cX3_readWet 2 RX3 none D (xtys cI cB cZ cQ) xord g Am) (O : xsO g cI cB cZ cQ Am aK aV) (K49 : ∀ (x1 : Int32) (S : gS) (H : Heap) (locs : List Loc) (ls : Array Slot), gX D (xcell g cI cB cZ cQ) xord g S s H locs → lv_has ls 2 [(0, .ref (g 1)), (1, .int x1)] → r49 x1 S = some o → W p l e (rmd 7) s m args below meth c H locs 0 0 (gE below args s D (xtys cI cB cZ cQ) (xcell g cI cB cZ cQ) xord g none o.2) (F0 m 49 ls [])) (X : gX D (xcell g cI cB cZ cQ) xord g S s H locs) (hl : lv_has ls 2 [(0, .ref (g 1)), (1, .int x1)]) (hF : fX3_readWet_b116 N r49 x1 S = some o) : W p l e (rmd 7) s m args below meth c H locs 0 0 (gE below args s D (xtys cI cB cZ cQ) (xcell g cI cB cZ cQ) xord g none o.2) (F0 m 116 ls []) := by
  unfold fX3_readWet_b116 at hF
  refine lv_iinc (v := (x1 + 1 : Int32)) (lv' := [(1, .int ((x1 + 1 : Int32))), (0, .ref (g 1))]) C.1.1 C.1.2.1 dX3_readWet_116 hl (k := 1) rfl rfl (by decide) rfl (fun ls hl => ?_)
  refine lv_goto (tgt := 49) C.1.1 C.1.2.1 dX3_readWet_119 (by decide) ?_
  exact K49 _ _ _ _ _ X (lv_sub hl [1, 0] rfl) hF
noncomputable def fX3_readWet_b87 (N : Nat) (r49 : Int32 → gS → Option (Int32 × gS)) (x1 : Int32) (S : gS) : Option (Int32 × gS) := lt (xdr S) fun T1 => (bnd (fX3_readNumber N 0 9 S) fun q1 => (chk (inb x1 8) (lt (sU q1.2 (T1 + 9) (Int32.toNatClampNeg x1) q1.1) fun S1 => (lt (xdr S1) fun T2 => (lt (sU S1 T2 10 (((S1 T2 10) + 1 : Int32))) fun S2 => (fX3_readWet_b116 N r49 x1 S2))))))
theorem bX3_readWet_87 {N : Nat} {r49 : Int32 → gS → Option (Int32 × gS)} {x1 : Int32} {S : gS} {H : Heap} {locs : List Loc} {ls : Array Slot} {o : Int32 × gS} (C : gC p s m args meth c cX3_readWet 2 RX3 none D (xtys cI cB cZ cQ) xord g Am) (O : xsO g cI cB cZ cQ Am aK aV) (K49 : ∀ (x1 : Int32) (S : gS) (H : Heap) (locs : List Loc) (ls : Array Slot), gX D (xcell g cI cB cZ cQ) xord g S s H locs → lv_has ls 2 [(0, .ref (g 1)), (1, .int x1)] → r49 x1 S = some o → W p l e (rmd 7) s m args below meth c H locs 0 0 (gE below args s D (xtys cI cB cZ cQ) (xcell g cI cB cZ cQ) xord g none o.2) (F0 m 49 ls [])) (X : gX D (xcell g cI cB cZ cQ) xord g S s H locs) (hl : lv_has ls 2 [(0, .ref (g 1)), (1, .int x1)]) (hF : fX3_readWet_b87 N r49 x1 S = some o) : W p l e (rmd 7) s m args below meth c H locs 0 0 (gE below args s D (xtys cI cB cZ cQ) (xcell g cI cB cZ cQ) xord g none o.2) (F0 m 87 ls []) := by
  unfold fX3_readWet_b87 at hF
  refine lv_aload_n C.1.1 C.1.2.1 dX3_readWet_87 rfl (lv_at hl 0 rfl) ?_
  obtain ⟨T1, eT1, hF⟩ := lt_some hF
  have hk_T1 := xdr_k eT1
  refine xg_X3_21 C O.1 X (T := T1) eT1 (k := 1) rfl dX3_readWet_88 ?_
  refine xg_X3_164 C O.1 X (k := T1) hk_T1 (j := T1 + 9) rfl dX3_readWet_91 ?_
  refine lv_iload_n C.1.1 C.1.2.1 dX3_readWet_94 rfl (lv_at hl 1 rfl) ?_
  refine lv_aload_n C.1.1 C.1.2.1 dX3_readWet_95 rfl (lv_at hl 0 rfl) ?_
  refine lv_iconst (v := 0) C.1.1 C.1.2.1 dX3_readWet_96 (by decide) ?_
  refine lv_bipush (v := 9) C.1.1 C.1.2.1 dX3_readWet_97 (by decide) ?_
  obtain ⟨q1, hq1, hF⟩ := bnd_some hF
  refine x_callVi C X (k := 1) xv_X3_120 (rfl : xk 1 = 3) rfl rfl (by decide) (kX3_readNumber O C.2.2.2.2.1 N 0 9 S q1 hq1) (Nat.le_of_ble_eq_true rfl) (Nat.le_of_ble_eq_true rfl) (Nat.le_of_ble_eq_true rfl) (Nat.le_of_ble_eq_true rfl) rfl hl.1 rfl (Nat.le_of_ble_eq_true rfl) dX3_readWet_99 (fun H locs X => ?_)
  obtain ⟨h_1, hF⟩ := chk_some hF
  obtain ⟨S1, eS1, hF⟩ := lt_some hF
  refine x_wI C O.1 X (k := T1 + 9) (xs_9_11 hk_T1).1 (n := 8) (xs_9_11 hk_T1).2  (inb_vp h_1) rfl eS1 dX3_readWet_102 (fun H locs X => ?_)
  refine lv_aload_n C.1.1 C.1.2.1 dX3_readWet_103 rfl (lv_at hl 0 rfl) ?_
  obtain ⟨T2, eT2, hF⟩ := lt_some hF
  have hk_T2 := xdr_k eT2
  refine xg_X3_21 C O.1 X (T := T2) eT2 (k := 1) rfl dX3_readWet_104 ?_
  refine lv_dup C.1.1 C.1.2.1 dX3_readWet_107 rfl ?_
  refine xg_X3_161 C O.1 X (k := T2) hk_T2 dX3_readWet_108 ?_
  refine lv_iconst (v := 1) C.1.1 C.1.2.1 dX3_readWet_111 (by decide) ?_
  refine lv_iadd C.1.1 C.1.2.1 dX3_readWet_112 ?_
  obtain ⟨S2, eS2, hF⟩ := lt_some hF
  refine xp_X3_161 C O.1 X (k := T2) hk_T2 eS2 dX3_readWet_113 (fun H locs X => ?_)
  exact bX3_readWet_116 C O K49 X (lv_sub hl [0, 1] rfl) hF
noncomputable def fX3_readWet_b79 (N : Nat) (r49 : Int32 → gS → Option (Int32 × gS)) (x1 : Int32) (S : gS) : Option (Int32 × gS) := bnd (fX3_refuse N 2 S) fun q1 => (fX3_readWet_b116 N r49 x1 q1.2)
theorem bX3_readWet_79 {N : Nat} {r49 : Int32 → gS → Option (Int32 × gS)} {x1 : Int32} {S : gS} {H : Heap} {locs : List Loc} {ls : Array Slot} {o : Int32 × gS} (C : gC p s m args meth c cX3_readWet 2 RX3 none D (xtys cI cB cZ cQ) xord g Am) (O : xsO g cI cB cZ cQ Am aK aV) (K49 : ∀ (x1 : Int32) (S : gS) (H : Heap) (locs : List Loc) (ls : Array Slot), gX D (xcell g cI cB cZ cQ) xord g S s H locs → lv_has ls 2 [(0, .ref (g 1)), (1, .int x1)] → r49 x1 S = some o → W p l e (rmd 7) s m args below meth c H locs 0 0 (gE below args s D (xtys cI cB cZ cQ) (xcell g cI cB cZ cQ) xord g none o.2) (F0 m 49 ls [])) (X : gX D (xcell g cI cB cZ cQ) xord g S s H locs) (hl : lv_has ls 2 [(0, .ref (g 1)), (1, .int x1)]) (hF : fX3_readWet_b79 N r49 x1 S = some o) : W p l e (rmd 7) s m args below meth c H locs 0 0 (gE below args s D (xtys cI cB cZ cQ) (xcell g cI cB cZ cQ) xord g none o.2) (F0 m 79 ls []) := by
  unfold fX3_readWet_b79 at hF
  refine lv_aload_n C.1.1 C.1.2.1 dX3_readWet_79 rfl (lv_at hl 0 rfl) ?_
  refine lv_iconst (v := 2) C.1.1 C.1.2.1 dX3_readWet_80 (by decide) ?_
  obtain ⟨q1, hq1, hF⟩ := bnd_some hF
  refine x_callV C X (k := 1) xv_X3_60 (rfl : xk 1 = 3) rfl rfl (by decide) (kX3_refuse O.1 C.2.2.2.2.1 N 2 S q1 hq1) (Nat.le_of_ble_eq_true rfl) (Nat.le_of_ble_eq_true rfl) (Nat.le_of_ble_eq_true rfl) (Nat.le_of_ble_eq_true rfl) rfl hl.1 rfl (Nat.le_of_ble_eq_true rfl) dX3_readWet_81 (fun H locs X => ?_)
  refine lv_goto (tgt := 116) C.1.1 C.1.2.1 dX3_readWet_84 (by decide) ?_
  exact bX3_readWet_116 C O K49 X (lv_sub hl [0, 1] rfl) hF
noncomputable def fX3_readWet_b73 (N : Nat) (r49 : Int32 → gS → Option (Int32 × gS)) (x1 : Int32) (S : gS) : Option (Int32 × gS) := if x1 = 8 then fX3_readWet_b79 N r49 x1 S else fX3_readWet_b87 N r49 x1 S
theorem bX3_readWet_73 {N : Nat} {r49 : Int32 → gS → Option (Int32 × gS)} {x1 : Int32} {S : gS} {H : Heap} {locs : List Loc} {ls : Array Slot} {o : Int32 × gS} (C : gC p s m args meth c cX3_readWet 2 RX3 none D (xtys cI cB cZ cQ) xord g Am) (O : xsO g cI cB cZ cQ Am aK aV) (K49 : ∀ (x1 : Int32) (S : gS) (H : Heap) (locs : List Loc) (ls : Array Slot), gX D (xcell g cI cB cZ cQ) xord g S s H locs → lv_has ls 2 [(0, .ref (g 1)), (1, .int x1)] → r49 x1 S = some o → W p l e (rmd 7) s m args below meth c H locs 0 0 (gE below args s D (xtys cI cB cZ cQ) (xcell g cI cB cZ cQ) xord g none o.2) (F0 m 49 ls [])) (X : gX D (xcell g cI cB cZ cQ) xord g S s H locs) (hl : lv_has ls 2 [(0, .ref (g 1)), (1, .int x1)]) (hF : fX3_readWet_b73 N r49 x1 S = some o) : W p l e (rmd 7) s m args below meth c H locs 0 0 (gE below args s D (xtys cI cB cZ cQ) (xcell g cI cB cZ cQ) xord g none o.2) (F0 m 73 ls []) := by
  unfold fX3_readWet_b73 at hF
  refine lv_iload_n C.1.1 C.1.2.1 dX3_readWet_73 rfl (lv_at hl 1 rfl) ?_
  refine lv_bipush (v := 8) C.1.1 C.1.2.1 dX3_readWet_74 (by decide) ?_
  refine lv_icmp_ne (tgt := 87) C.1.1 C.1.2.1 dX3_readWet_76 (by decide) (fun h_z => ?_) (fun h_z => ?_)
  · rw [if_neg h_z] at hF
    exact bX3_readWet_87 C O K49 X (lv_sub hl [0, 1] rfl) hF
  · rw [if_pos h_z] at hF
    exact bX3_readWet_79 C O K49 X (lv_sub hl [0, 1] rfl) hF
noncomputable def fX3_readWet_b62 (N : Nat) (r49 : Int32 → gS → Option (Int32 × gS)) (x1 : Int32) (S : gS) : Option (Int32 × gS) := if (S 2 4) = 2 then fX3_readWet_b73 N r49 x1 S else fX3_readWet_b122 N S
theorem bX3_readWet_62 {N : Nat} {r49 : Int32 → gS → Option (Int32 × gS)} {x1 : Int32} {S : gS} {H : Heap} {locs : List Loc} {ls : Array Slot} {o : Int32 × gS} (C : gC p s m args meth c cX3_readWet 2 RX3 none D (xtys cI cB cZ cQ) xord g Am) (O : xsO g cI cB cZ cQ Am aK aV) (K49 : ∀ (x1 : Int32) (S : gS) (H : Heap) (locs : List Loc) (ls : Array Slot), gX D (xcell g cI cB cZ cQ) xord g S s H locs → lv_has ls 2 [(0, .ref (g 1)), (1, .int x1)] → r49 x1 S = some o → W p l e (rmd 7) s m args below meth c H locs 0 0 (gE below args s D (xtys cI cB cZ cQ) (xcell g cI cB cZ cQ) xord g none o.2) (F0 m 49 ls [])) (X : gX D (xcell g cI cB cZ cQ) xord g S s H locs) (hl : lv_has ls 2 [(0, .ref (g 1)), (1, .int x1)]) (hF : fX3_readWet_b62 N r49 x1 S = some o) : W p l e (rmd 7) s m args below meth c H locs 0 0 (gE below args s D (xtys cI cB cZ cQ) (xcell g cI cB cZ cQ) xord g none o.2) (F0 m 62 ls []) := by
  unfold fX3_readWet_b62 at hF
  refine lv_aload_n C.1.1 C.1.2.1 dX3_readWet_62 rfl (lv_at hl 0 rfl) ?_
  refine xg_X3_12 C O.1 X (k := 1) rfl (j := 2) rfl dX3_readWet_63 ?_
  refine xg_X3_43 C O.1 X (k := 2) rfl dX3_readWet_66 ?_
  refine lv_iconst (v := 2) C.1.1 C.1.2.1 dX3_readWet_69 (by decide) ?_
  refine lv_icmp_ne (tgt := 122) C.1.1 C.1.2.1 dX3_readWet_70 (by decide) (fun h_z => ?_) (fun h_z => ?_)
  · rw [if_neg h_z] at hF
    exact bX3_readWet_122 C O X (lv_sub hl [] rfl) hF
  · rw [if_pos h_z] at hF
    exact bX3_readWet_73 C O K49 X (lv_sub hl [0, 1] rfl) hF
noncomputable def fX3_readWet_b55 (N : Nat) (r49 : Int32 → gS → Option (Int32 × gS)) (x1 : Int32) (S : gS) : Option (Int32 × gS) := bnd (fX3_isFine N S) fun q1 => (if q1.1 = 0 then fX3_readWet_b122 N q1.2 else fX3_readWet_b62 N r49 x1 q1.2)
theorem bX3_readWet_55 {N : Nat} {r49 : Int32 → gS → Option (Int32 × gS)} {x1 : Int32} {S : gS} {H : Heap} {locs : List Loc} {ls : Array Slot} {o : Int32 × gS} (C : gC p s m args meth c cX3_readWet 2 RX3 none D (xtys cI cB cZ cQ) xord g Am) (O : xsO g cI cB cZ cQ Am aK aV) (K49 : ∀ (x1 : Int32) (S : gS) (H : Heap) (locs : List Loc) (ls : Array Slot), gX D (xcell g cI cB cZ cQ) xord g S s H locs → lv_has ls 2 [(0, .ref (g 1)), (1, .int x1)] → r49 x1 S = some o → W p l e (rmd 7) s m args below meth c H locs 0 0 (gE below args s D (xtys cI cB cZ cQ) (xcell g cI cB cZ cQ) xord g none o.2) (F0 m 49 ls [])) (X : gX D (xcell g cI cB cZ cQ) xord g S s H locs) (hl : lv_has ls 2 [(0, .ref (g 1)), (1, .int x1)]) (hF : fX3_readWet_b55 N r49 x1 S = some o) : W p l e (rmd 7) s m args below meth c H locs 0 0 (gE below args s D (xtys cI cB cZ cQ) (xcell g cI cB cZ cQ) xord g none o.2) (F0 m 55 ls []) := by
  unfold fX3_readWet_b55 at hF
  refine lv_aload_n C.1.1 C.1.2.1 dX3_readWet_55 rfl (lv_at hl 0 rfl) ?_
  obtain ⟨q1, hq1, hF⟩ := bnd_some hF
  refine x_callVi C X (k := 1) xv_X3_39 (rfl : xk 1 = 3) rfl rfl (by decide) (kX3_isFine O.1 C.2.2.2.2.1 N S q1 hq1) (Nat.le_of_ble_eq_true rfl) (Nat.le_of_ble_eq_true rfl) (Nat.le_of_ble_eq_true rfl) (Nat.le_of_ble_eq_true rfl) rfl hl.1 rfl (Nat.le_of_ble_eq_true rfl) dX3_readWet_56 (fun H locs X => ?_)
  refine lv_if_eq (tgt := 122) C.1.1 C.1.2.1 dX3_readWet_59 (by decide) (fun h_z => ?_) (fun h_z => ?_)
  · rw [if_pos h_z] at hF
    exact bX3_readWet_122 C O X (lv_sub hl [] rfl) hF
  · rw [if_neg h_z] at hF
    exact bX3_readWet_62 C O K49 X (lv_sub hl [0, 1] rfl) hF
noncomputable def fX3_readWet_b49 (N : Nat) (r49 : Int32 → gS → Option (Int32 × gS)) (x1 : Int32) (S : gS) : Option (Int32 × gS) := if 8 < x1 then fX3_readWet_b122 N S else fX3_readWet_b55 N r49 x1 S
theorem bX3_readWet_49 {N : Nat} {r49 : Int32 → gS → Option (Int32 × gS)} {x1 : Int32} {S : gS} {H : Heap} {locs : List Loc} {ls : Array Slot} {o : Int32 × gS} (C : gC p s m args meth c cX3_readWet 2 RX3 none D (xtys cI cB cZ cQ) xord g Am) (O : xsO g cI cB cZ cQ Am aK aV) (K49 : ∀ (x1 : Int32) (S : gS) (H : Heap) (locs : List Loc) (ls : Array Slot), gX D (xcell g cI cB cZ cQ) xord g S s H locs → lv_has ls 2 [(0, .ref (g 1)), (1, .int x1)] → r49 x1 S = some o → W p l e (rmd 7) s m args below meth c H locs 0 0 (gE below args s D (xtys cI cB cZ cQ) (xcell g cI cB cZ cQ) xord g none o.2) (F0 m 49 ls [])) (X : gX D (xcell g cI cB cZ cQ) xord g S s H locs) (hl : lv_has ls 2 [(0, .ref (g 1)), (1, .int x1)]) (hF : fX3_readWet_b49 N r49 x1 S = some o) : W p l e (rmd 7) s m args below meth c H locs 0 0 (gE below args s D (xtys cI cB cZ cQ) (xcell g cI cB cZ cQ) xord g none o.2) (F0 m 49 ls []) := by
  unfold fX3_readWet_b49 at hF
  refine lv_iload_n C.1.1 C.1.2.1 dX3_readWet_49 rfl (lv_at hl 1 rfl) ?_
  refine lv_bipush (v := 8) C.1.1 C.1.2.1 dX3_readWet_50 (by decide) ?_
  refine lv_icmp_gt (tgt := 122) C.1.1 C.1.2.1 dX3_readWet_52 (by decide) (fun h_z => ?_) (fun h_z => ?_)
  · rw [if_pos h_z] at hF
    exact bX3_readWet_122 C O X (lv_sub hl [] rfl) hF
  · rw [if_neg h_z] at hF
    exact bX3_readWet_55 C O K49 X (lv_sub hl [0, 1] rfl) hF
noncomputable def fX3_readWet_h49 (N : Nat) : Nat → Int32 → gS → Option (Int32 × gS)
  | 0, _, _ => none
  | n + 1, x1, S => fX3_readWet_b49 N (fX3_readWet_h49 N n) x1 S
theorem hX3_readWet_49 {N : Nat} {o : Int32 × gS} (C : gC p s m args meth c cX3_readWet 2 RX3 none D (xtys cI cB cZ cQ) xord g Am) (O : xsO g cI cB cZ cQ Am aK aV) : ∀ (n : Nat) (x1 : Int32) (S : gS) (H : Heap) (locs : List Loc) (ls : Array Slot), gX D (xcell g cI cB cZ cQ) xord g S s H locs → lv_has ls 2 [(0, .ref (g 1)), (1, .int x1)] → fX3_readWet_h49 N n x1 S = some o → W p l e (rmd 7) s m args below meth c H locs 0 0 (gE below args s D (xtys cI cB cZ cQ) (xcell g cI cB cZ cQ) xord g none o.2) (F0 m 49 ls []) := by
  intro n
  induction n with
  | zero =>
    intro x1 S H locs ls X hl hF
    exact absurd (show (none : Option (Int32 × gS)) = some o from hF) (by simp)
  | succ n ih =>
    intro x1 S H locs ls X hl hF
    have hF : fX3_readWet_b49 N (fX3_readWet_h49 N n) x1 S = some o := hF
    exact bX3_readWet_49 C O ih X hl hF
noncomputable def fX3_readWet_b16 (N : Nat) (S : gS) : Option (Int32 × gS) := bnd (fX8_advance N S) fun q1 => (lt (xdr q1.2) fun T1 => (bnd (fX3_readNumber N 0 9 q1.2) fun q2 => (lt (sU q2.2 (T1 + 9) 0 q2.1) fun S1 => (lt (xdr S1) fun T2 => (lt (sU S1 T2 10 1) fun S2 => (fX3_readWet_h49 N N 1 S2))))))
theorem bX3_readWet_16 {N : Nat} {S : gS} {H : Heap} {locs : List Loc} {ls : Array Slot} {o : Int32 × gS} (C : gC p s m args meth c cX3_readWet 2 RX3 none D (xtys cI cB cZ cQ) xord g Am) (O : xsO g cI cB cZ cQ Am aK aV) (X : gX D (xcell g cI cB cZ cQ) xord g S s H locs) (hl : lv_has ls 2 [(0, .ref (g 1))]) (hF : fX3_readWet_b16 N S = some o) : W p l e (rmd 7) s m args below meth c H locs 0 0 (gE below args s D (xtys cI cB cZ cQ) (xcell g cI cB cZ cQ) xord g none o.2) (F0 m 16 ls []) := by
  unfold fX3_readWet_b16 at hF
  refine lv_aload_n C.1.1 C.1.2.1 dX3_readWet_16 rfl (lv_at hl 0 rfl) ?_
  refine xg_X3_12 C O.1 X (k := 1) rfl (j := 2) rfl dX3_readWet_17 ?_
  obtain ⟨q1, hq1, hF⟩ := bnd_some hF
  refine x_callV C X (k := 2) xv_X3_63 (rfl : xk 2 = 8) rfl rfl (by decide) (kX8_advance O C.2.2.2.2.1 N S q1 hq1) (Nat.le_of_ble_eq_true rfl) (Nat.le_of_ble_eq_true rfl) (Nat.le_of_ble_eq_true rfl) (Nat.le_of_ble_eq_true rfl) rfl hl.1 rfl (Nat.le_of_ble_eq_true rfl) dX3_readWet_20 (fun H locs X => ?_)
  refine lv_aload_n C.1.1 C.1.2.1 dX3_readWet_23 rfl (lv_at hl 0 rfl) ?_
  obtain ⟨T1, eT1, hF⟩ := lt_some hF
  have hk_T1 := xdr_k eT1
  refine xg_X3_21 C O.1 X (T := T1) eT1 (k := 1) rfl dX3_readWet_24 ?_
  refine xg_X3_164 C O.1 X (k := T1) hk_T1 (j := T1 + 9) rfl dX3_readWet_27 ?_
  refine lv_iconst (v := 0) C.1.1 C.1.2.1 dX3_readWet_30 (by decide) ?_
  refine lv_aload_n C.1.1 C.1.2.1 dX3_readWet_31 rfl (lv_at hl 0 rfl) ?_
  refine lv_iconst (v := 0) C.1.1 C.1.2.1 dX3_readWet_32 (by decide) ?_
  refine lv_bipush (v := 9) C.1.1 C.1.2.1 dX3_readWet_33 (by decide) ?_
  obtain ⟨q2, hq2, hF⟩ := bnd_some hF
  refine x_callVi C X (k := 1) xv_X3_120 (rfl : xk 1 = 3) rfl rfl (by decide) (kX3_readNumber O C.2.2.2.2.1 N 0 9 q1.2 q2 hq2) (Nat.le_of_ble_eq_true rfl) (Nat.le_of_ble_eq_true rfl) (Nat.le_of_ble_eq_true rfl) (Nat.le_of_ble_eq_true rfl) rfl hl.1 rfl (Nat.le_of_ble_eq_true rfl) dX3_readWet_35 (fun H locs X => ?_)
  obtain ⟨S1, eS1, hF⟩ := lt_some hF
  refine x_wI C O.1 X (k := T1 + 9) (xs_9_11 hk_T1).1 (n := 8) (xs_9_11 hk_T1).2 (j := 0) (inb_vp (by decide)) (by decide) eS1 dX3_readWet_38 (fun H locs X => ?_)
  refine lv_aload_n C.1.1 C.1.2.1 dX3_readWet_39 rfl (lv_at hl 0 rfl) ?_
  obtain ⟨T2, eT2, hF⟩ := lt_some hF
  have hk_T2 := xdr_k eT2
  refine xg_X3_21 C O.1 X (T := T2) eT2 (k := 1) rfl dX3_readWet_40 ?_
  refine lv_iconst (v := 1) C.1.1 C.1.2.1 dX3_readWet_43 (by decide) ?_
  obtain ⟨S2, eS2, hF⟩ := lt_some hF
  refine xp_X3_161 C O.1 X (k := T2) hk_T2 eS2 dX3_readWet_44 (fun H locs X => ?_)
  refine lv_iconst (v := 1) C.1.1 C.1.2.1 dX3_readWet_47 (by decide) ?_
  refine lv_istore_n (lv' := [(1, .int 1), (0, .ref (g 1))]) C.1.1 C.1.2.1 dX3_readWet_48 rfl hl (by decide) rfl (fun ls hl => ?_)
  exact hX3_readWet_49 C O N _ _ _ _ _ X (lv_sub hl [1, 0] rfl) hF
noncomputable def fX3_readWet_b10 (N : Nat) (S : gS) : Option (Int32 × gS) := bnd (fX3_refuse N 5 S) fun q1 => (some (0, q1.2))
theorem bX3_readWet_10 {N : Nat} {S : gS} {H : Heap} {locs : List Loc} {ls : Array Slot} {o : Int32 × gS} (C : gC p s m args meth c cX3_readWet 2 RX3 none D (xtys cI cB cZ cQ) xord g Am) (O : xsO g cI cB cZ cQ Am aK aV) (X : gX D (xcell g cI cB cZ cQ) xord g S s H locs) (hl : lv_has ls 2 [(0, .ref (g 1))]) (hF : fX3_readWet_b10 N S = some o) : W p l e (rmd 7) s m args below meth c H locs 0 0 (gE below args s D (xtys cI cB cZ cQ) (xcell g cI cB cZ cQ) xord g none o.2) (F0 m 10 ls []) := by
  unfold fX3_readWet_b10 at hF
  refine lv_aload_n C.1.1 C.1.2.1 dX3_readWet_10 rfl (lv_at hl 0 rfl) ?_
  refine lv_iconst (v := 5) C.1.1 C.1.2.1 dX3_readWet_11 (by decide) ?_
  obtain ⟨q1, hq1, hF⟩ := bnd_some hF
  refine x_callV C X (k := 1) xv_X3_60 (rfl : xk 1 = 3) rfl rfl (by decide) (kX3_refuse O.1 C.2.2.2.2.1 N 5 S q1 hq1) (Nat.le_of_ble_eq_true rfl) (Nat.le_of_ble_eq_true rfl) (Nat.le_of_ble_eq_true rfl) (Nat.le_of_ble_eq_true rfl) rfl hl.1 rfl (Nat.le_of_ble_eq_true rfl) dX3_readWet_12 (fun H locs X => ?_)
  cases hF
  exact g_vret C X dX3_readWet_15
noncomputable def fX3_readWet_b0 (N : Nat) (S : gS) : Option (Int32 × gS) := lt (xdr S) fun T1 => (if (S T1 10) ≤ 0 then fX3_readWet_b16 N S else fX3_readWet_b10 N S)
theorem bX3_readWet_0 {N : Nat} {S : gS} {H : Heap} {locs : List Loc} {ls : Array Slot} {o : Int32 × gS} (C : gC p s m args meth c cX3_readWet 2 RX3 none D (xtys cI cB cZ cQ) xord g Am) (O : xsO g cI cB cZ cQ Am aK aV) (X : gX D (xcell g cI cB cZ cQ) xord g S s H locs) (hl : lv_has ls 2 [(0, .ref (g 1))]) (hF : fX3_readWet_b0 N S = some o) : W p l e (rmd 7) s m args below meth c H locs 0 0 (gE below args s D (xtys cI cB cZ cQ) (xcell g cI cB cZ cQ) xord g none o.2) (F0 m 0 ls []) := by
  unfold fX3_readWet_b0 at hF
  refine lv_aload_n C.1.1 C.1.2.1 dX3_readWet_0 rfl (lv_at hl 0 rfl) ?_
  obtain ⟨T1, eT1, hF⟩ := lt_some hF
  have hk_T1 := xdr_k eT1
  refine xg_X3_21 C O.1 X (T := T1) eT1 (k := 1) rfl dX3_readWet_1 ?_
  refine xg_X3_161 C O.1 X (k := T1) hk_T1 dX3_readWet_4 ?_
  refine lv_if_le (tgt := 16) C.1.1 C.1.2.1 dX3_readWet_7 (by decide) (fun h_z => ?_) (fun h_z => ?_)
  · rw [if_pos h_z] at hF
    exact bX3_readWet_16 C O X (lv_sub hl [0] rfl) hF
  · rw [if_neg h_z] at hF
    exact bX3_readWet_10 C O X (lv_sub hl [0] rfl) hF
noncomputable def fX3_readWet (N : Nat) (S : gS) : Option (Int32 × gS) := fX3_readWet_b0 N S
theorem kX3_readWet {l : Launch} {D : va_G} {g : Nat → Nat} {cI cB cZ cQ : ClassId} {Am : (Nat → Prop) → State → Heap → Prop} {aK aV : Nat → Nat} (O : xsO g cI cB cZ cQ Am aK aV) (P : gAm Am) (N : Nat) (S : gS) (o : Int32 × gS) (hF : fX3_readWet N S = some o) : gM l yX3_readWet cX3_readWet 2 none 7 D (xtys cI cB cZ cQ) (xcell g cI cB cZ cQ) xord g Am [.ref (g 1)] S none o.2 :=
  gM_of O.1.1 P (by decide) (Nat.le_of_ble_eq_true rfl) (fun p e s m args below meth c ls C X hl => bX3_readWet_0 C O X (lv_sub hl [0] rfl) hF)
-- X3.readBound
noncomputable def fX3_readBound_b16 (N : Nat) (S : gS) : Option (Int32 × gS) := bnd (fX8_advance N S) fun q1 => (lt (xdr q1.2) fun T1 => (bnd (fX3_readNumber N 1 99 q1.2) fun q2 => (lt (sU q2.2 T1 12 q2.1) fun S1 => (some (0, S1)))))
theorem bX3_readBound_16 {N : Nat} {S : gS} {H : Heap} {locs : List Loc} {ls : Array Slot} {o : Int32 × gS} (C : gC p s m args meth c cX3_readBound 1 RX3 none D (xtys cI cB cZ cQ) xord g Am) (O : xsO g cI cB cZ cQ Am aK aV) (X : gX D (xcell g cI cB cZ cQ) xord g S s H locs) (hl : lv_has ls 1 [(0, .ref (g 1))]) (hF : fX3_readBound_b16 N S = some o) : W p l e (rmd 7) s m args below meth c H locs 0 0 (gE below args s D (xtys cI cB cZ cQ) (xcell g cI cB cZ cQ) xord g none o.2) (F0 m 16 ls []) := by
  unfold fX3_readBound_b16 at hF
  refine lv_aload_n C.1.1 C.1.2.1 dX3_readBound_16 rfl (lv_at hl 0 rfl) ?_
  refine xg_X3_12 C O.1 X (k := 1) rfl (j := 2) rfl dX3_readBound_17 ?_
  obtain ⟨q1, hq1, hF⟩ := bnd_some hF
  refine x_callV C X (k := 2) xv_X3_63 (rfl : xk 2 = 8) rfl rfl (by decide) (kX8_advance O C.2.2.2.2.1 N S q1 hq1) (Nat.le_of_ble_eq_true rfl) (Nat.le_of_ble_eq_true rfl) (Nat.le_of_ble_eq_true rfl) (Nat.le_of_ble_eq_true rfl) rfl hl.1 rfl (Nat.le_of_ble_eq_true rfl) dX3_readBound_20 (fun H locs X => ?_)
  refine lv_aload_n C.1.1 C.1.2.1 dX3_readBound_23 rfl (lv_at hl 0 rfl) ?_
  obtain ⟨T1, eT1, hF⟩ := lt_some hF
  have hk_T1 := xdr_k eT1
  refine xg_X3_21 C O.1 X (T := T1) eT1 (k := 1) rfl dX3_readBound_24 ?_
  refine lv_aload_n C.1.1 C.1.2.1 dX3_readBound_27 rfl (lv_at hl 0 rfl) ?_
  refine lv_iconst (v := 1) C.1.1 C.1.2.1 dX3_readBound_28 (by decide) ?_
  refine lv_bipush (v := 99) C.1.1 C.1.2.1 dX3_readBound_29 (by decide) ?_
  obtain ⟨q2, hq2, hF⟩ := bnd_some hF
  refine x_callVi C X (k := 1) xv_X3_120 (rfl : xk 1 = 3) rfl rfl (by decide) (kX3_readNumber O C.2.2.2.2.1 N 1 99 q1.2 q2 hq2) (Nat.le_of_ble_eq_true rfl) (Nat.le_of_ble_eq_true rfl) (Nat.le_of_ble_eq_true rfl) (Nat.le_of_ble_eq_true rfl) rfl hl.1 rfl (Nat.le_of_ble_eq_true rfl) dX3_readBound_31 (fun H locs X => ?_)
  obtain ⟨S1, eS1, hF⟩ := lt_some hF
  refine xp_X3_169 C O.1 X (k := T1) hk_T1 eS1 dX3_readBound_34 (fun H locs X => ?_)
  cases hF
  exact g_vret C X dX3_readBound_37
noncomputable def fX3_readBound_b10 (N : Nat) (S : gS) : Option (Int32 × gS) := bnd (fX3_refuse N 5 S) fun q1 => (some (0, q1.2))
theorem bX3_readBound_10 {N : Nat} {S : gS} {H : Heap} {locs : List Loc} {ls : Array Slot} {o : Int32 × gS} (C : gC p s m args meth c cX3_readBound 1 RX3 none D (xtys cI cB cZ cQ) xord g Am) (O : xsO g cI cB cZ cQ Am aK aV) (X : gX D (xcell g cI cB cZ cQ) xord g S s H locs) (hl : lv_has ls 1 [(0, .ref (g 1))]) (hF : fX3_readBound_b10 N S = some o) : W p l e (rmd 7) s m args below meth c H locs 0 0 (gE below args s D (xtys cI cB cZ cQ) (xcell g cI cB cZ cQ) xord g none o.2) (F0 m 10 ls []) := by
  unfold fX3_readBound_b10 at hF
  refine lv_aload_n C.1.1 C.1.2.1 dX3_readBound_10 rfl (lv_at hl 0 rfl) ?_
  refine lv_iconst (v := 5) C.1.1 C.1.2.1 dX3_readBound_11 (by decide) ?_
  obtain ⟨q1, hq1, hF⟩ := bnd_some hF
  refine x_callV C X (k := 1) xv_X3_60 (rfl : xk 1 = 3) rfl rfl (by decide) (kX3_refuse O.1 C.2.2.2.2.1 N 5 S q1 hq1) (Nat.le_of_ble_eq_true rfl) (Nat.le_of_ble_eq_true rfl) (Nat.le_of_ble_eq_true rfl) (Nat.le_of_ble_eq_true rfl) rfl hl.1 rfl (Nat.le_of_ble_eq_true rfl) dX3_readBound_12 (fun H locs X => ?_)
  cases hF
  exact g_vret C X dX3_readBound_15
noncomputable def fX3_readBound_b0 (N : Nat) (S : gS) : Option (Int32 × gS) := lt (xdr S) fun T1 => (bnd (fX9_isBoundTold N T1 S) fun q1 => (if q1.1 = 0 then fX3_readBound_b16 N q1.2 else fX3_readBound_b10 N q1.2))
theorem bX3_readBound_0 {N : Nat} {S : gS} {H : Heap} {locs : List Loc} {ls : Array Slot} {o : Int32 × gS} (C : gC p s m args meth c cX3_readBound 1 RX3 none D (xtys cI cB cZ cQ) xord g Am) (O : xsO g cI cB cZ cQ Am aK aV) (X : gX D (xcell g cI cB cZ cQ) xord g S s H locs) (hl : lv_has ls 1 [(0, .ref (g 1))]) (hF : fX3_readBound_b0 N S = some o) : W p l e (rmd 7) s m args below meth c H locs 0 0 (gE below args s D (xtys cI cB cZ cQ) (xcell g cI cB cZ cQ) xord g none o.2) (F0 m 0 ls []) := by
  unfold fX3_readBound_b0 at hF
  refine lv_aload_n C.1.1 C.1.2.1 dX3_readBound_0 rfl (lv_at hl 0 rfl) ?_
  obtain ⟨T1, eT1, hF⟩ := lt_some hF
  have hk_T1 := xdr_k eT1
  refine xg_X3_21 C O.1 X (T := T1) eT1 (k := 1) rfl dX3_readBound_1 ?_
  obtain ⟨q1, hq1, hF⟩ := bnd_some hF
  refine x_callVi C X (k := T1) xv_X3_166 hk_T1 rfl rfl (by decide) (kX9_isBoundTold O.1 C.2.2.2.2.1 N T1 (hk_T1 : xk T1 = 9) S q1 hq1) (Nat.le_of_ble_eq_true rfl) (Nat.le_of_ble_eq_true rfl) (Nat.le_of_ble_eq_true rfl) (Nat.le_of_ble_eq_true rfl) rfl hl.1 rfl (Nat.le_of_ble_eq_true rfl) dX3_readBound_4 (fun H locs X => ?_)
  refine lv_if_eq (tgt := 16) C.1.1 C.1.2.1 dX3_readBound_7 (by decide) (fun h_z => ?_) (fun h_z => ?_)
  · rw [if_pos h_z] at hF
    exact bX3_readBound_16 C O X (lv_sub hl [0] rfl) hF
  · rw [if_neg h_z] at hF
    exact bX3_readBound_10 C O X (lv_sub hl [0] rfl) hF
noncomputable def fX3_readBound (N : Nat) (S : gS) : Option (Int32 × gS) := fX3_readBound_b0 N S
theorem kX3_readBound {l : Launch} {D : va_G} {g : Nat → Nat} {cI cB cZ cQ : ClassId} {Am : (Nat → Prop) → State → Heap → Prop} {aK aV : Nat → Nat} (O : xsO g cI cB cZ cQ Am aK aV) (P : gAm Am) (N : Nat) (S : gS) (o : Int32 × gS) (hF : fX3_readBound N S = some o) : gM l yX3_readBound cX3_readBound 1 none 7 D (xtys cI cB cZ cQ) (xcell g cI cB cZ cQ) xord g Am [.ref (g 1)] S none o.2 :=
  gM_of O.1.1 P (by decide) (Nat.le_of_ble_eq_true rfl) (fun p e s m args below meth c ls C X hl => bX3_readBound_0 C O X (lv_sub hl [0] rfl) hF)
-- X3.readPart
noncomputable def fX3_readPart_b95 (N : Nat) (rE : Nat → Int32 → gS → Option (Int32 × gS)) (S : gS) : Option (Int32 × gS) := some (0, S)
theorem bX3_readPart_95 {N : Nat} {rE : Nat → Int32 → gS → Option (Int32 × gS)} {d0 : Nat} {S : gS} {H : Heap} {locs : List Loc} {ls : Array Slot} {o : Int32 × gS} (C : gC p s m args meth c cX3_readPart 3 RX3 none D (xtys cI cB cZ cQ) xord g Am) (O : xsO g cI cB cZ cQ Am aK aV) (hd0 : 12 ≤ d0) (KE : ∀ (k1 : Nat) (hk_k1 : xk k1 = 4) (x : Int32) (S : gS) (o : Int32 × gS), rE k1 x S = some o → gM l yX3_readExpr cX3_readExpr 4 none d0 D (xtys cI cB cZ cQ) (xcell g cI cB cZ cQ) xord g Am [.ref (g 1), .ref (g k1), .int x] S none o.2) (X : gX D (xcell g cI cB cZ cQ) xord g S s H locs) (hl : lv_has ls 3 []) (hF : fX3_readPart_b95 N rE S = some o) : W p l e (rmd (d0 + 1)) s m args below meth c H locs 0 0 (gE below args s D (xtys cI cB cZ cQ) (xcell g cI cB cZ cQ) xord g none o.2) (F0 m 95 ls []) := by
  unfold fX3_readPart_b95 at hF
  cases hF
  exact g_vret C X dX3_readPart_95
noncomputable def fX3_readPart_b79 (N : Nat) (rE : Nat → Int32 → gS → Option (Int32 × gS)) (k1 : Nat) (S : gS) : Option (Int32 × gS) := bnd (fX3_valueCode N k1 S) fun q1 => (bnd (fX4_add N k1 q1.1 q1.2) fun q2 => (bnd (fX8_advance N q2.2) fun q3 => (fX3_readPart_b95 N rE q3.2)))
theorem bX3_readPart_79 {N : Nat} {rE : Nat → Int32 → gS → Option (Int32 × gS)} {d0 : Nat} {k1 : Nat} {S : gS} {H : Heap} {locs : List Loc} {ls : Array Slot} {o : Int32 × gS} (C : gC p s m args meth c cX3_readPart 3 RX3 none D (xtys cI cB cZ cQ) xord g Am) (O : xsO g cI cB cZ cQ Am aK aV) (hd0 : 12 ≤ d0) (KE : ∀ (k1 : Nat) (hk_k1 : xk k1 = 4) (x : Int32) (S : gS) (o : Int32 × gS), rE k1 x S = some o → gM l yX3_readExpr cX3_readExpr 4 none d0 D (xtys cI cB cZ cQ) (xcell g cI cB cZ cQ) xord g Am [.ref (g 1), .ref (g k1), .int x] S none o.2) (hk_k1 : xk k1 = 4) (X : gX D (xcell g cI cB cZ cQ) xord g S s H locs) (hl : lv_has ls 3 [(0, .ref (g 1)), (1, .ref (g k1))]) (hF : fX3_readPart_b79 N rE k1 S = some o) : W p l e (rmd (d0 + 1)) s m args below meth c H locs 0 0 (gE below args s D (xtys cI cB cZ cQ) (xcell g cI cB cZ cQ) xord g none o.2) (F0 m 79 ls []) := by
  unfold fX3_readPart_b79 at hF
  refine lv_aload_n C.1.1 C.1.2.1 dX3_readPart_79 rfl (lv_at hl 1 rfl) ?_
  refine lv_aload_n C.1.1 C.1.2.1 dX3_readPart_80 rfl (lv_at hl 0 rfl) ?_
  refine lv_aload_n C.1.1 C.1.2.1 dX3_readPart_81 rfl (lv_at hl 1 rfl) ?_
  obtain ⟨q1, hq1, hF⟩ := bnd_some hF
  refine x_callVi C X (k := 1) xv_X3_207 (rfl : xk 1 = 3) rfl rfl (by decide) (kX3_valueCode O C.2.2.2.2.1 N k1 (hk_k1 : xk k1 = 4) S q1 hq1) (by simp only [rmd]; omega) (by simp only [rmd]; omega) (Nat.zero_le _) (Nat.zero_le _) rfl hl.1 rfl (Nat.le_of_ble_eq_true rfl) dX3_readPart_82 (fun H locs X => ?_)
  obtain ⟨q2, hq2, hF⟩ := bnd_some hF
  refine x_callV C X (k := k1) xv_X3_185 hk_k1 rfl rfl (by decide) (kX4_add O.1 C.2.2.2.2.1 N k1 q1.1 (hk_k1 : xk k1 = 4) q1.2 q2 hq2) (by simp only [rmd]; omega) (by simp only [rmd]; omega) (Nat.zero_le _) (Nat.zero_le _) rfl hl.1 rfl (Nat.le_of_ble_eq_true rfl) dX3_readPart_85 (fun H locs X => ?_)
  refine lv_aload_n C.1.1 C.1.2.1 dX3_readPart_88 rfl (lv_at hl 0 rfl) ?_
  refine xg_X3_12 C O.1 X (k := 1) rfl (j := 2) rfl dX3_readPart_89 ?_
  obtain ⟨q3, hq3, hF⟩ := bnd_some hF
  refine x_callV C X (k := 2) xv_X3_63 (rfl : xk 2 = 8) rfl rfl (by decide) (kX8_advance O C.2.2.2.2.1 N q2.2 q3 hq3) (by simp only [rmd]; omega) (by simp only [rmd]; omega) (Nat.zero_le _) (Nat.zero_le _) rfl hl.1 rfl (Nat.le_of_ble_eq_true rfl) dX3_readPart_92 (fun H locs X => ?_)
  exact bX3_readPart_95 C O hd0 KE X (lv_sub hl [] rfl) hF
noncomputable def fX3_readPart_b71 (N : Nat) (rE : Nat → Int32 → gS → Option (Int32 × gS)) (S : gS) : Option (Int32 × gS) := bnd (fX3_refuse N 3 S) fun q1 => (fX3_readPart_b95 N rE q1.2)
theorem bX3_readPart_71 {N : Nat} {rE : Nat → Int32 → gS → Option (Int32 × gS)} {d0 : Nat} {S : gS} {H : Heap} {locs : List Loc} {ls : Array Slot} {o : Int32 × gS} (C : gC p s m args meth c cX3_readPart 3 RX3 none D (xtys cI cB cZ cQ) xord g Am) (O : xsO g cI cB cZ cQ Am aK aV) (hd0 : 12 ≤ d0) (KE : ∀ (k1 : Nat) (hk_k1 : xk k1 = 4) (x : Int32) (S : gS) (o : Int32 × gS), rE k1 x S = some o → gM l yX3_readExpr cX3_readExpr 4 none d0 D (xtys cI cB cZ cQ) (xcell g cI cB cZ cQ) xord g Am [.ref (g 1), .ref (g k1), .int x] S none o.2) (X : gX D (xcell g cI cB cZ cQ) xord g S s H locs) (hl : lv_has ls 3 [(0, .ref (g 1))]) (hF : fX3_readPart_b71 N rE S = some o) : W p l e (rmd (d0 + 1)) s m args below meth c H locs 0 0 (gE below args s D (xtys cI cB cZ cQ) (xcell g cI cB cZ cQ) xord g none o.2) (F0 m 71 ls []) := by
  unfold fX3_readPart_b71 at hF
  refine lv_aload_n C.1.1 C.1.2.1 dX3_readPart_71 rfl (lv_at hl 0 rfl) ?_
  refine lv_iconst (v := 3) C.1.1 C.1.2.1 dX3_readPart_72 (by decide) ?_
  obtain ⟨q1, hq1, hF⟩ := bnd_some hF
  refine x_callV C X (k := 1) xv_X3_60 (rfl : xk 1 = 3) rfl rfl (by decide) (kX3_refuse O.1 C.2.2.2.2.1 N 3 S q1 hq1) (by simp only [rmd]; omega) (by simp only [rmd]; omega) (Nat.zero_le _) (Nat.zero_le _) rfl hl.1 rfl (Nat.le_of_ble_eq_true rfl) dX3_readPart_73 (fun H locs X => ?_)
  refine lv_goto (tgt := 95) C.1.1 C.1.2.1 dX3_readPart_76 (by decide) ?_
  exact bX3_readPart_95 C O hd0 KE X (lv_sub hl [] rfl) hF
noncomputable def fX3_readPart_b62 (N : Nat) (rE : Nat → Int32 → gS → Option (Int32 × gS)) (k1 : Nat) (S : gS) : Option (Int32 × gS) := bnd (fX3_valueCode N k1 S) fun q1 => (if q1.1 = ((-1)) then fX3_readPart_b71 N rE q1.2 else fX3_readPart_b79 N rE k1 q1.2)
theorem bX3_readPart_62 {N : Nat} {rE : Nat → Int32 → gS → Option (Int32 × gS)} {d0 : Nat} {k1 : Nat} {S : gS} {H : Heap} {locs : List Loc} {ls : Array Slot} {o : Int32 × gS} (C : gC p s m args meth c cX3_readPart 3 RX3 none D (xtys cI cB cZ cQ) xord g Am) (O : xsO g cI cB cZ cQ Am aK aV) (hd0 : 12 ≤ d0) (KE : ∀ (k1 : Nat) (hk_k1 : xk k1 = 4) (x : Int32) (S : gS) (o : Int32 × gS), rE k1 x S = some o → gM l yX3_readExpr cX3_readExpr 4 none d0 D (xtys cI cB cZ cQ) (xcell g cI cB cZ cQ) xord g Am [.ref (g 1), .ref (g k1), .int x] S none o.2) (hk_k1 : xk k1 = 4) (X : gX D (xcell g cI cB cZ cQ) xord g S s H locs) (hl : lv_has ls 3 [(0, .ref (g 1)), (1, .ref (g k1))]) (hF : fX3_readPart_b62 N rE k1 S = some o) : W p l e (rmd (d0 + 1)) s m args below meth c H locs 0 0 (gE below args s D (xtys cI cB cZ cQ) (xcell g cI cB cZ cQ) xord g none o.2) (F0 m 62 ls []) := by
  unfold fX3_readPart_b62 at hF
  refine lv_aload_n C.1.1 C.1.2.1 dX3_readPart_62 rfl (lv_at hl 0 rfl) ?_
  refine lv_aload_n C.1.1 C.1.2.1 dX3_readPart_63 rfl (lv_at hl 1 rfl) ?_
  obtain ⟨q1, hq1, hF⟩ := bnd_some hF
  refine x_callVi C X (k := 1) xv_X3_207 (rfl : xk 1 = 3) rfl rfl (by decide) (kX3_valueCode O C.2.2.2.2.1 N k1 (hk_k1 : xk k1 = 4) S q1 hq1) (by simp only [rmd]; omega) (by simp only [rmd]; omega) (Nat.zero_le _) (Nat.zero_le _) rfl hl.1 rfl (Nat.le_of_ble_eq_true rfl) dX3_readPart_64 (fun H locs X => ?_)
  refine lv_iconst (v := (-1)) C.1.1 C.1.2.1 dX3_readPart_67 (by decide) ?_
  refine lv_icmp_ne (tgt := 79) C.1.1 C.1.2.1 dX3_readPart_68 (by decide) (fun h_z => ?_) (fun h_z => ?_)
  · rw [if_neg h_z] at hF
    exact bX3_readPart_79 C O hd0 KE (hk_k1 : xk k1 = 4) X (lv_sub hl [0, 1] rfl) hF
  · rw [if_pos h_z] at hF
    exact bX3_readPart_71 C O hd0 KE X (lv_sub hl [0] rfl) hF
noncomputable def fX3_readPart_b47 (N : Nat) (rE : Nat → Int32 → gS → Option (Int32 × gS)) (k1 : Nat) (S : gS) : Option (Int32 × gS) := bnd (fX3_readNumber N 0 9999 S) fun q1 => (bnd (fX4_add N k1 q1.1 q1.2) fun q2 => (fX3_readPart_b95 N rE q2.2))
theorem bX3_readPart_47 {N : Nat} {rE : Nat → Int32 → gS → Option (Int32 × gS)} {d0 : Nat} {k1 : Nat} {S : gS} {H : Heap} {locs : List Loc} {ls : Array Slot} {o : Int32 × gS} (C : gC p s m args meth c cX3_readPart 3 RX3 none D (xtys cI cB cZ cQ) xord g Am) (O : xsO g cI cB cZ cQ Am aK aV) (hd0 : 12 ≤ d0) (KE : ∀ (k1 : Nat) (hk_k1 : xk k1 = 4) (x : Int32) (S : gS) (o : Int32 × gS), rE k1 x S = some o → gM l yX3_readExpr cX3_readExpr 4 none d0 D (xtys cI cB cZ cQ) (xcell g cI cB cZ cQ) xord g Am [.ref (g 1), .ref (g k1), .int x] S none o.2) (hk_k1 : xk k1 = 4) (X : gX D (xcell g cI cB cZ cQ) xord g S s H locs) (hl : lv_has ls 3 [(0, .ref (g 1)), (1, .ref (g k1))]) (hF : fX3_readPart_b47 N rE k1 S = some o) : W p l e (rmd (d0 + 1)) s m args below meth c H locs 0 0 (gE below args s D (xtys cI cB cZ cQ) (xcell g cI cB cZ cQ) xord g none o.2) (F0 m 47 ls []) := by
  unfold fX3_readPart_b47 at hF
  refine lv_aload_n C.1.1 C.1.2.1 dX3_readPart_47 rfl (lv_at hl 1 rfl) ?_
  refine lv_aload_n C.1.1 C.1.2.1 dX3_readPart_48 rfl (lv_at hl 0 rfl) ?_
  refine lv_iconst (v := 0) C.1.1 C.1.2.1 dX3_readPart_49 (by decide) ?_
  refine lv_sipush (v := 9999) C.1.1 C.1.2.1 dX3_readPart_50 (by decide) ?_
  obtain ⟨q1, hq1, hF⟩ := bnd_some hF
  refine x_callVi C X (k := 1) xv_X3_120 (rfl : xk 1 = 3) rfl rfl (by decide) (kX3_readNumber O C.2.2.2.2.1 N 0 9999 S q1 hq1) (by simp only [rmd]; omega) (by simp only [rmd]; omega) (Nat.zero_le _) (Nat.zero_le _) rfl hl.1 rfl (Nat.le_of_ble_eq_true rfl) dX3_readPart_53 (fun H locs X => ?_)
  obtain ⟨q2, hq2, hF⟩ := bnd_some hF
  refine x_callV C X (k := k1) xv_X3_185 hk_k1 rfl rfl (by decide) (kX4_add O.1 C.2.2.2.2.1 N k1 q1.1 (hk_k1 : xk k1 = 4) q1.2 q2 hq2) (by simp only [rmd]; omega) (by simp only [rmd]; omega) (Nat.zero_le _) (Nat.zero_le _) rfl hl.1 rfl (Nat.le_of_ble_eq_true rfl) dX3_readPart_56 (fun H locs X => ?_)
  refine lv_goto (tgt := 95) C.1.1 C.1.2.1 dX3_readPart_59 (by decide) ?_
  exact bX3_readPart_95 C O hd0 KE X (lv_sub hl [] rfl) hF
noncomputable def fX3_readPart_b36 (N : Nat) (rE : Nat → Int32 → gS → Option (Int32 × gS)) (k1 : Nat) (S : gS) : Option (Int32 × gS) := if (S 2 4) = 1 then fX3_readPart_b62 N rE k1 S else fX3_readPart_b47 N rE k1 S
theorem bX3_readPart_36 {N : Nat} {rE : Nat → Int32 → gS → Option (Int32 × gS)} {d0 : Nat} {k1 : Nat} {S : gS} {H : Heap} {locs : List Loc} {ls : Array Slot} {o : Int32 × gS} (C : gC p s m args meth c cX3_readPart 3 RX3 none D (xtys cI cB cZ cQ) xord g Am) (O : xsO g cI cB cZ cQ Am aK aV) (hd0 : 12 ≤ d0) (KE : ∀ (k1 : Nat) (hk_k1 : xk k1 = 4) (x : Int32) (S : gS) (o : Int32 × gS), rE k1 x S = some o → gM l yX3_readExpr cX3_readExpr 4 none d0 D (xtys cI cB cZ cQ) (xcell g cI cB cZ cQ) xord g Am [.ref (g 1), .ref (g k1), .int x] S none o.2) (hk_k1 : xk k1 = 4) (X : gX D (xcell g cI cB cZ cQ) xord g S s H locs) (hl : lv_has ls 3 [(0, .ref (g 1)), (1, .ref (g k1))]) (hF : fX3_readPart_b36 N rE k1 S = some o) : W p l e (rmd (d0 + 1)) s m args below meth c H locs 0 0 (gE below args s D (xtys cI cB cZ cQ) (xcell g cI cB cZ cQ) xord g none o.2) (F0 m 36 ls []) := by
  unfold fX3_readPart_b36 at hF
  refine lv_aload_n C.1.1 C.1.2.1 dX3_readPart_36 rfl (lv_at hl 0 rfl) ?_
  refine xg_X3_12 C O.1 X (k := 1) rfl (j := 2) rfl dX3_readPart_37 ?_
  refine xg_X3_43 C O.1 X (k := 2) rfl dX3_readPart_40 ?_
  refine lv_iconst (v := 1) C.1.1 C.1.2.1 dX3_readPart_43 (by decide) ?_
  refine lv_icmp_eq (tgt := 62) C.1.1 C.1.2.1 dX3_readPart_44 (by decide) (fun h_z => ?_) (fun h_z => ?_)
  · rw [if_pos h_z] at hF
    exact bX3_readPart_62 C O hd0 KE (hk_k1 : xk k1 = 4) X (lv_sub hl [0, 1] rfl) hF
  · rw [if_neg h_z] at hF
    exact bX3_readPart_47 C O hd0 KE (hk_k1 : xk k1 = 4) X (lv_sub hl [0, 1] rfl) hF
noncomputable def fX3_readPart_b12 (N : Nat) (rE : Nat → Int32 → gS → Option (Int32 × gS)) (k1 : Nat) (x2 : Int32) (S : gS) : Option (Int32 × gS) := bnd (fX8_advance N S) fun q1 => (bnd (rE k1 ((x2 + 1 : Int32)) q1.2) fun q2 => (bnd (fX3_skipSign N 41 q2.2) fun q3 => (fX3_readPart_b95 N rE q3.2)))
theorem bX3_readPart_12 {N : Nat} {rE : Nat → Int32 → gS → Option (Int32 × gS)} {d0 : Nat} {k1 : Nat} {x2 : Int32} {S : gS} {H : Heap} {locs : List Loc} {ls : Array Slot} {o : Int32 × gS} (C : gC p s m args meth c cX3_readPart 3 RX3 none D (xtys cI cB cZ cQ) xord g Am) (O : xsO g cI cB cZ cQ Am aK aV) (hd0 : 12 ≤ d0) (KE : ∀ (k1 : Nat) (hk_k1 : xk k1 = 4) (x : Int32) (S : gS) (o : Int32 × gS), rE k1 x S = some o → gM l yX3_readExpr cX3_readExpr 4 none d0 D (xtys cI cB cZ cQ) (xcell g cI cB cZ cQ) xord g Am [.ref (g 1), .ref (g k1), .int x] S none o.2) (hk_k1 : xk k1 = 4) (X : gX D (xcell g cI cB cZ cQ) xord g S s H locs) (hl : lv_has ls 3 [(0, .ref (g 1)), (1, .ref (g k1)), (2, .int x2)]) (hF : fX3_readPart_b12 N rE k1 x2 S = some o) : W p l e (rmd (d0 + 1)) s m args below meth c H locs 0 0 (gE below args s D (xtys cI cB cZ cQ) (xcell g cI cB cZ cQ) xord g none o.2) (F0 m 12 ls []) := by
  unfold fX3_readPart_b12 at hF
  refine lv_aload_n C.1.1 C.1.2.1 dX3_readPart_12 rfl (lv_at hl 0 rfl) ?_
  refine xg_X3_12 C O.1 X (k := 1) rfl (j := 2) rfl dX3_readPart_13 ?_
  obtain ⟨q1, hq1, hF⟩ := bnd_some hF
  refine x_callV C X (k := 2) xv_X3_63 (rfl : xk 2 = 8) rfl rfl (by decide) (kX8_advance O C.2.2.2.2.1 N S q1 hq1) (by simp only [rmd]; omega) (by simp only [rmd]; omega) (Nat.zero_le _) (Nat.zero_le _) rfl hl.1 rfl (Nat.le_of_ble_eq_true rfl) dX3_readPart_16 (fun H locs X => ?_)
  refine lv_aload_n C.1.1 C.1.2.1 dX3_readPart_19 rfl (lv_at hl 0 rfl) ?_
  refine lv_aload_n C.1.1 C.1.2.1 dX3_readPart_20 rfl (lv_at hl 1 rfl) ?_
  refine lv_iload_n C.1.1 C.1.2.1 dX3_readPart_21 rfl (lv_at hl 2 rfl) ?_
  refine lv_iconst (v := 1) C.1.1 C.1.2.1 dX3_readPart_22 (by decide) ?_
  refine lv_iadd C.1.1 C.1.2.1 dX3_readPart_23 ?_
  obtain ⟨q2, hq2, hF⟩ := bnd_some hF
  refine x_callV C X (k := 1) xv_X3_176 (rfl : xk 1 = 3) rfl rfl (by decide) (KE k1 (hk_k1 : xk k1 = 4) _ _ _ hq2) (by simp only [rmd]; omega) (by simp only [rmd]; omega) (Nat.zero_le _) (Nat.zero_le _) rfl hl.1 rfl (Nat.le_of_ble_eq_true rfl) dX3_readPart_24 (fun H locs X => ?_)
  refine lv_aload_n C.1.1 C.1.2.1 dX3_readPart_27 rfl (lv_at hl 0 rfl) ?_
  refine lv_bipush (v := 41) C.1.1 C.1.2.1 dX3_readPart_28 (by decide) ?_
  obtain ⟨q3, hq3, hF⟩ := bnd_some hF
  refine x_callV C X (k := 1) xv_X3_49 (rfl : xk 1 = 3) rfl rfl (by decide) (kX3_skipSign O C.2.2.2.2.1 N 41 q2.2 q3 hq3) (by simp only [rmd]; omega) (by simp only [rmd]; omega) (Nat.zero_le _) (Nat.zero_le _) rfl hl.1 rfl (Nat.le_of_ble_eq_true rfl) dX3_readPart_30 (fun H locs X => ?_)
  refine lv_goto (tgt := 95) C.1.1 C.1.2.1 dX3_readPart_33 (by decide) ?_
  exact bX3_readPart_95 C O hd0 KE X (lv_sub hl [] rfl) hF
noncomputable def fX3_readPart_b0 (N : Nat) (rE : Nat → Int32 → gS → Option (Int32 × gS)) (k1 : Nat) (x2 : Int32) (S : gS) : Option (Int32 × gS) := bnd (fX8_isAtSign N 40 S) fun q1 => (if q1.1 = 0 then fX3_readPart_b36 N rE k1 q1.2 else fX3_readPart_b12 N rE k1 x2 q1.2)
theorem bX3_readPart_0 {N : Nat} {rE : Nat → Int32 → gS → Option (Int32 × gS)} {d0 : Nat} {k1 : Nat} {x2 : Int32} {S : gS} {H : Heap} {locs : List Loc} {ls : Array Slot} {o : Int32 × gS} (C : gC p s m args meth c cX3_readPart 3 RX3 none D (xtys cI cB cZ cQ) xord g Am) (O : xsO g cI cB cZ cQ Am aK aV) (hd0 : 12 ≤ d0) (KE : ∀ (k1 : Nat) (hk_k1 : xk k1 = 4) (x : Int32) (S : gS) (o : Int32 × gS), rE k1 x S = some o → gM l yX3_readExpr cX3_readExpr 4 none d0 D (xtys cI cB cZ cQ) (xcell g cI cB cZ cQ) xord g Am [.ref (g 1), .ref (g k1), .int x] S none o.2) (hk_k1 : xk k1 = 4) (X : gX D (xcell g cI cB cZ cQ) xord g S s H locs) (hl : lv_has ls 3 [(0, .ref (g 1)), (1, .ref (g k1)), (2, .int x2)]) (hF : fX3_readPart_b0 N rE k1 x2 S = some o) : W p l e (rmd (d0 + 1)) s m args below meth c H locs 0 0 (gE below args s D (xtys cI cB cZ cQ) (xcell g cI cB cZ cQ) xord g none o.2) (F0 m 0 ls []) := by
  unfold fX3_readPart_b0 at hF
  refine lv_aload_n C.1.1 C.1.2.1 dX3_readPart_0 rfl (lv_at hl 0 rfl) ?_
  refine xg_X3_12 C O.1 X (k := 1) rfl (j := 2) rfl dX3_readPart_1 ?_
  refine lv_bipush (v := 40) C.1.1 C.1.2.1 dX3_readPart_4 (by decide) ?_
  obtain ⟨q1, hq1, hF⟩ := bnd_some hF
  refine x_callVi C X (k := 2) xv_X3_56 (rfl : xk 2 = 8) rfl rfl (by decide) (kX8_isAtSign O.1 C.2.2.2.2.1 N 40 S q1 hq1) (by simp only [rmd]; omega) (by simp only [rmd]; omega) (Nat.zero_le _) (Nat.zero_le _) rfl hl.1 rfl (Nat.le_of_ble_eq_true rfl) dX3_readPart_6 (fun H locs X => ?_)
  refine lv_if_eq (tgt := 36) C.1.1 C.1.2.1 dX3_readPart_9 (by decide) (fun h_z => ?_) (fun h_z => ?_)
  · rw [if_pos h_z] at hF
    exact bX3_readPart_36 C O hd0 KE (hk_k1 : xk k1 = 4) X (lv_sub hl [0, 1] rfl) hF
  · rw [if_neg h_z] at hF
    exact bX3_readPart_12 C O hd0 KE (hk_k1 : xk k1 = 4) X (lv_sub hl [0, 1, 2] rfl) hF
noncomputable def fX3_readPart (N : Nat) (rE : Nat → Int32 → gS → Option (Int32 × gS)) (k1 : Nat) (x2 : Int32) (S : gS) : Option (Int32 × gS) := fX3_readPart_b0 N rE k1 x2 S
theorem kX3_readPart {l : Launch} {D : va_G} {g : Nat → Nat} {cI cB cZ cQ : ClassId} {Am : (Nat → Prop) → State → Heap → Prop} {aK aV : Nat → Nat} (O : xsO g cI cB cZ cQ Am aK aV) (P : gAm Am) (N : Nat) {rE : Nat → Int32 → gS → Option (Int32 × gS)} {d0 : Nat} (hd0 : 12 ≤ d0) (KE : ∀ (k1 : Nat) (hk_k1 : xk k1 = 4) (x : Int32) (S : gS) (o : Int32 × gS), rE k1 x S = some o → gM l yX3_readExpr cX3_readExpr 4 none d0 D (xtys cI cB cZ cQ) (xcell g cI cB cZ cQ) xord g Am [.ref (g 1), .ref (g k1), .int x] S none o.2) (k1 : Nat) (x2 : Int32) (hk_k1 : xk k1 = 4) (S : gS) (o : Int32 × gS) (hF : fX3_readPart N rE k1 x2 S = some o) : gM l yX3_readPart cX3_readPart 3 none (d0 + 1) D (xtys cI cB cZ cQ) (xcell g cI cB cZ cQ) xord g Am [.ref (g 1), .ref (g k1), .int x2] S none o.2 :=
  gM_of O.1.1 P (by decide) (Nat.le_of_ble_eq_true rfl) (fun p e s m args below meth c ls C X hl => bX3_readPart_0 C O hd0 KE hk_k1 X (lv_sub hl [0, 1, 2] rfl) hF)
-- X8.open
noncomputable def fX8_open_b0 (N : Nat) (x1 : Int32) (S : gS) : Option (Int32 × gS) := lt (sU S 2 2 (if (S 2 1) < x1 then (S 2 1) else x1)) fun S1 => (lt (sU S1 2 3 0) fun S2 => (bnd (fX8_advance N S2) fun q1 => (some (0, q1.2))))
theorem bX8_open_0 {N : Nat} {x1 : Int32} {S : gS} {H : Heap} {locs : List Loc} {ls : Array Slot} {o : Int32 × gS} (C : gC p s m args meth c cX8_open 2 RX8 none D (xtys cI cB cZ cQ) xord g Am) (O : xsO g cI cB cZ cQ Am aK aV) (X : gX D (xcell g cI cB cZ cQ) xord g S s H locs) (hl : lv_has ls 2 [(0, .ref (g 2)), (1, .int x1)]) (hF : fX8_open_b0 N x1 S = some o) : W p l e (rmd 6) s m args below meth c H locs 0 0 (gE below args s D (xtys cI cB cZ cQ) (xcell g cI cB cZ cQ) xord g none o.2) (F0 m 0 ls []) := by
  unfold fX8_open_b0 at hF
  refine lv_aload_n C.1.1 C.1.2.1 dX8_open_0 rfl (lv_at hl 0 rfl) ?_
  refine lv_iload_n C.1.1 C.1.2.1 dX8_open_1 rfl (lv_at hl 1 rfl) ?_
  refine lv_aload_n C.1.1 C.1.2.1 dX8_open_2 rfl (lv_at hl 0 rfl) ?_
  refine xg_X8_15 C O.1 X (k := 2) rfl dX8_open_3 ?_
  refine g_min C hl.1 xMmin_X8_34 ⟨(Nat.le_of_ble_eq_true rfl), (Nat.le_of_ble_eq_true rfl)⟩ (Nat.le_of_ble_eq_true rfl) (Nat.le_of_ble_eq_true rfl) dX8_open_6 ?_
  obtain ⟨S1, eS1, hF⟩ := lt_some hF
  refine xp_X8_19 C O.1 X (k := 2) rfl eS1 dX8_open_9 (fun H locs X => ?_)
  refine lv_aload_n C.1.1 C.1.2.1 dX8_open_12 rfl (lv_at hl 0 rfl) ?_
  refine lv_iconst (v := 0) C.1.1 C.1.2.1 dX8_open_13 (by decide) ?_
  obtain ⟨S2, eS2, hF⟩ := lt_some hF
  refine xp_X8_22 C O.1 X (k := 2) rfl eS2 dX8_open_14 (fun H locs X => ?_)
  refine lv_aload_n C.1.1 C.1.2.1 dX8_open_17 rfl (lv_at hl 0 rfl) ?_
  obtain ⟨q1, hq1, hF⟩ := bnd_some hF
  refine x_callV C X (k := 2) xv_X8_40 (rfl : xk 2 = 8) rfl rfl (by decide) (kX8_advance O C.2.2.2.2.1 N S2 q1 hq1) (Nat.le_of_ble_eq_true rfl) (Nat.le_of_ble_eq_true rfl) (Nat.le_of_ble_eq_true rfl) (Nat.le_of_ble_eq_true rfl) rfl hl.1 rfl (Nat.le_of_ble_eq_true rfl) dX8_open_18 (fun H locs X => ?_)
  cases hF
  exact g_vret C X dX8_open_21
noncomputable def fX8_open (N : Nat) (x1 : Int32) (S : gS) : Option (Int32 × gS) := fX8_open_b0 N x1 S
theorem kX8_open {l : Launch} {D : va_G} {g : Nat → Nat} {cI cB cZ cQ : ClassId} {Am : (Nat → Prop) → State → Heap → Prop} {aK aV : Nat → Nat} (O : xsO g cI cB cZ cQ Am aK aV) (P : gAm Am) (N : Nat) (x1 : Int32) (S : gS) (o : Int32 × gS) (hF : fX8_open N x1 S = some o) : gM l yX8_open cX8_open 2 none 6 D (xtys cI cB cZ cQ) (xcell g cI cB cZ cQ) xord g Am [.ref (g 2), .int x1] S none o.2 :=
  gM_of O.1.1 P (by decide) (Nat.le_of_ble_eq_true rfl) (fun p e s m args below meth c ls C X hl => bX8_open_0 C O X (lv_sub hl [0, 1] rfl) hF)
-- X3.readGuild
noncomputable def fX3_readGuild_b125 (N : Nat) (S : gS) : Option (Int32 × gS) := lt (xdr S) fun T1 => (lt (sU S T1 5 (((S T1 5) + 1 : Int32))) fun S1 => (some (0, S1)))
theorem bX3_readGuild_125 {N : Nat} {S : gS} {H : Heap} {locs : List Loc} {ls : Array Slot} {o : Int32 × gS} (C : gC p s m args meth c cX3_readGuild 2 RX3 none D (xtys cI cB cZ cQ) xord g Am) (O : xsO g cI cB cZ cQ Am aK aV) (X : gX D (xcell g cI cB cZ cQ) xord g S s H locs) (hl : lv_has ls 2 [(0, .ref (g 1))]) (hF : fX3_readGuild_b125 N S = some o) : W p l e (rmd 8) s m args below meth c H locs 0 0 (gE below args s D (xtys cI cB cZ cQ) (xcell g cI cB cZ cQ) xord g none o.2) (F0 m 125 ls []) := by
  unfold fX3_readGuild_b125 at hF
  refine lv_aload_n C.1.1 C.1.2.1 dX3_readGuild_125 rfl (lv_at hl 0 rfl) ?_
  obtain ⟨T1, eT1, hF⟩ := lt_some hF
  have hk_T1 := xdr_k eT1
  refine xg_X3_21 C O.1 X (T := T1) eT1 (k := 1) rfl dX3_readGuild_126 ?_
  refine lv_dup C.1.1 C.1.2.1 dX3_readGuild_129 rfl ?_
  refine xg_X3_133 C O.1 X (k := T1) hk_T1 dX3_readGuild_130 ?_
  refine lv_iconst (v := 1) C.1.1 C.1.2.1 dX3_readGuild_133 (by decide) ?_
  refine lv_iadd C.1.1 C.1.2.1 dX3_readGuild_134 ?_
  obtain ⟨S1, eS1, hF⟩ := lt_some hF
  refine xp_X3_133 C O.1 X (k := T1) hk_T1 eS1 dX3_readGuild_135 (fun H locs X => ?_)
  cases hF
  exact g_vret C X dX3_readGuild_138
noncomputable def fX3_readGuild_b105 (N : Nat) (x1 : Int32) (S : gS) : Option (Int32 × gS) := bnd (fX8_advance N S) fun q1 => (lt (xdr q1.2) fun T1 => (bnd (fX3_readHired N q1.2) fun q2 => (chk (inb x1 6) (lt (sU q2.2 (T1 + 8) (Int32.toNatClampNeg x1) q2.1) fun S1 => (fX3_readGuild_b125 N S1)))))
theorem bX3_readGuild_105 {N : Nat} {x1 : Int32} {S : gS} {H : Heap} {locs : List Loc} {ls : Array Slot} {o : Int32 × gS} (C : gC p s m args meth c cX3_readGuild 2 RX3 none D (xtys cI cB cZ cQ) xord g Am) (O : xsO g cI cB cZ cQ Am aK aV) (X : gX D (xcell g cI cB cZ cQ) xord g S s H locs) (hl : lv_has ls 2 [(0, .ref (g 1)), (1, .int x1)]) (hF : fX3_readGuild_b105 N x1 S = some o) : W p l e (rmd 8) s m args below meth c H locs 0 0 (gE below args s D (xtys cI cB cZ cQ) (xcell g cI cB cZ cQ) xord g none o.2) (F0 m 105 ls []) := by
  unfold fX3_readGuild_b105 at hF
  refine lv_aload_n C.1.1 C.1.2.1 dX3_readGuild_105 rfl (lv_at hl 0 rfl) ?_
  refine xg_X3_12 C O.1 X (k := 1) rfl (j := 2) rfl dX3_readGuild_106 ?_
  obtain ⟨q1, hq1, hF⟩ := bnd_some hF
  refine x_callV C X (k := 2) xv_X3_63 (rfl : xk 2 = 8) rfl rfl (by decide) (kX8_advance O C.2.2.2.2.1 N S q1 hq1) (Nat.le_of_ble_eq_true rfl) (Nat.le_of_ble_eq_true rfl) (Nat.le_of_ble_eq_true rfl) (Nat.le_of_ble_eq_true rfl) rfl hl.1 rfl (Nat.le_of_ble_eq_true rfl) dX3_readGuild_109 (fun H locs X => ?_)
  refine lv_aload_n C.1.1 C.1.2.1 dX3_readGuild_112 rfl (lv_at hl 0 rfl) ?_
  obtain ⟨T1, eT1, hF⟩ := lt_some hF
  have hk_T1 := xdr_k eT1
  refine xg_X3_21 C O.1 X (T := T1) eT1 (k := 1) rfl dX3_readGuild_113 ?_
  refine xg_X3_145 C O.1 X (k := T1) hk_T1 (j := T1 + 8) rfl dX3_readGuild_116 ?_
  refine lv_iload_n C.1.1 C.1.2.1 dX3_readGuild_119 rfl (lv_at hl 1 rfl) ?_
  refine lv_aload_n C.1.1 C.1.2.1 dX3_readGuild_120 rfl (lv_at hl 0 rfl) ?_
  obtain ⟨q2, hq2, hF⟩ := bnd_some hF
  refine x_callVi C X (k := 1) xv_X3_150 (rfl : xk 1 = 3) rfl rfl (by decide) (kX3_readHired O C.2.2.2.2.1 N q1.2 q2 hq2) (Nat.le_of_ble_eq_true rfl) (Nat.le_of_ble_eq_true rfl) (Nat.le_of_ble_eq_true rfl) (Nat.le_of_ble_eq_true rfl) rfl hl.1 rfl (Nat.le_of_ble_eq_true rfl) dX3_readGuild_121 (fun H locs X => ?_)
  obtain ⟨h_1, hF⟩ := chk_some hF
  obtain ⟨S1, eS1, hF⟩ := lt_some hF
  refine x_wI C O.1 X (k := T1 + 8) (xs_9_9 hk_T1).1 (n := 6) (xs_9_9 hk_T1).2  (inb_vp h_1) rfl eS1 dX3_readGuild_124 (fun H locs X => ?_)
  exact bX3_readGuild_125 C O X (lv_sub hl [0] rfl) hF
noncomputable def fX3_readGuild_b93 (N : Nat) (x1 : Int32) (S : gS) : Option (Int32 × gS) := bnd (fX8_isAtWord N 5 S) fun q1 => (if q1.1 = 0 then fX3_readGuild_b125 N q1.2 else fX3_readGuild_b105 N x1 q1.2)
theorem bX3_readGuild_93 {N : Nat} {x1 : Int32} {S : gS} {H : Heap} {locs : List Loc} {ls : Array Slot} {o : Int32 × gS} (C : gC p s m args meth c cX3_readGuild 2 RX3 none D (xtys cI cB cZ cQ) xord g Am) (O : xsO g cI cB cZ cQ Am aK aV) (X : gX D (xcell g cI cB cZ cQ) xord g S s H locs) (hl : lv_has ls 2 [(0, .ref (g 1)), (1, .int x1)]) (hF : fX3_readGuild_b93 N x1 S = some o) : W p l e (rmd 8) s m args below meth c H locs 0 0 (gE below args s D (xtys cI cB cZ cQ) (xcell g cI cB cZ cQ) xord g none o.2) (F0 m 93 ls []) := by
  unfold fX3_readGuild_b93 at hF
  refine lv_aload_n C.1.1 C.1.2.1 dX3_readGuild_93 rfl (lv_at hl 0 rfl) ?_
  refine xg_X3_12 C O.1 X (k := 1) rfl (j := 2) rfl dX3_readGuild_94 ?_
  refine s_ldc C (xs_sO O) (i := 5) rfl dX3_readGuild_97 ?_
  obtain ⟨q1, hq1, hF⟩ := bnd_some hF
  refine x_callVi C X (k := 2) xv_X3_75 (rfl : xk 2 = 8) rfl rfl (by decide) (kX8_isAtWord O C.2.2.2.2.1 N 5 (rfl : sI 5 = true) S q1 hq1) (Nat.le_of_ble_eq_true rfl) (Nat.le_of_ble_eq_true rfl) (Nat.le_of_ble_eq_true rfl) (Nat.le_of_ble_eq_true rfl) rfl hl.1 rfl (Nat.le_of_ble_eq_true rfl) dX3_readGuild_99 (fun H locs X => ?_)
  refine lv_if_eq (tgt := 125) C.1.1 C.1.2.1 dX3_readGuild_102 (by decide) (fun h_z => ?_) (fun h_z => ?_)
  · rw [if_pos h_z] at hF
    exact bX3_readGuild_125 C O X (lv_sub hl [0] rfl) hF
  · rw [if_neg h_z] at hF
    exact bX3_readGuild_105 C O X (lv_sub hl [0, 1] rfl) hF
noncomputable def fX3_readGuild_b20 (N : Nat) (x1 : Int32) (S : gS) : Option (Int32 × gS) := bnd (fX8_advance N S) fun q1 => (lt (xdr q1.2) fun T1 => (bnd (fX3_readNumber N 0 9 q1.2) fun q2 => (chk (inb x1 6) (lt (sU q2.2 (T1 + 5) (Int32.toNatClampNeg x1) q2.1) fun S1 => (lt (xdr S1) fun T2 => (bnd (fX3_readNumber N 0 99 S1) fun q3 => (chk (inb x1 6) (lt (sU q3.2 (T2 + 6) (Int32.toNatClampNeg x1) q3.1) fun S2 => (lt (xdr S2) fun T3 => (bnd (fX3_readNumber N 0 999 S2) fun q4 => (chk (inb x1 6) (lt (sU q4.2 (T3 + 7) (Int32.toNatClampNeg x1) q4.1) fun S3 => (lt (xdr S3) fun T4 => (chk (inb x1 6) (lt (sU S3 (T4 + 8) (Int32.toNatClampNeg x1) ((-1))) fun S4 => (bnd (fX3_isFine N S4) fun q5 => (if q5.1 = 0 then fX3_readGuild_b125 N q5.2 else fX3_readGuild_b93 N x1 q5.2)))))))))))))))))
theorem bX3_readGuild_20 {N : Nat} {x1 : Int32} {S : gS} {H : Heap} {locs : List Loc} {ls : Array Slot} {o : Int32 × gS} (C : gC p s m args meth c cX3_readGuild 2 RX3 none D (xtys cI cB cZ cQ) xord g Am) (O : xsO g cI cB cZ cQ Am aK aV) (X : gX D (xcell g cI cB cZ cQ) xord g S s H locs) (hl : lv_has ls 2 [(0, .ref (g 1)), (1, .int x1)]) (hF : fX3_readGuild_b20 N x1 S = some o) : W p l e (rmd 8) s m args below meth c H locs 0 0 (gE below args s D (xtys cI cB cZ cQ) (xcell g cI cB cZ cQ) xord g none o.2) (F0 m 20 ls []) := by
  unfold fX3_readGuild_b20 at hF
  refine lv_aload_n C.1.1 C.1.2.1 dX3_readGuild_20 rfl (lv_at hl 0 rfl) ?_
  refine xg_X3_12 C O.1 X (k := 1) rfl (j := 2) rfl dX3_readGuild_21 ?_
  obtain ⟨q1, hq1, hF⟩ := bnd_some hF
  refine x_callV C X (k := 2) xv_X3_63 (rfl : xk 2 = 8) rfl rfl (by decide) (kX8_advance O C.2.2.2.2.1 N S q1 hq1) (Nat.le_of_ble_eq_true rfl) (Nat.le_of_ble_eq_true rfl) (Nat.le_of_ble_eq_true rfl) (Nat.le_of_ble_eq_true rfl) rfl hl.1 rfl (Nat.le_of_ble_eq_true rfl) dX3_readGuild_24 (fun H locs X => ?_)
  refine lv_aload_n C.1.1 C.1.2.1 dX3_readGuild_27 rfl (lv_at hl 0 rfl) ?_
  obtain ⟨T1, eT1, hF⟩ := lt_some hF
  have hk_T1 := xdr_k eT1
  refine xg_X3_21 C O.1 X (T := T1) eT1 (k := 1) rfl dX3_readGuild_28 ?_
  refine xg_X3_136 C O.1 X (k := T1) hk_T1 (j := T1 + 5) rfl dX3_readGuild_31 ?_
  refine lv_iload_n C.1.1 C.1.2.1 dX3_readGuild_34 rfl (lv_at hl 1 rfl) ?_
  refine lv_aload_n C.1.1 C.1.2.1 dX3_readGuild_35 rfl (lv_at hl 0 rfl) ?_
  refine lv_iconst (v := 0) C.1.1 C.1.2.1 dX3_readGuild_36 (by decide) ?_
  refine lv_bipush (v := 9) C.1.1 C.1.2.1 dX3_readGuild_37 (by decide) ?_
  obtain ⟨q2, hq2, hF⟩ := bnd_some hF
  refine x_callVi C X (k := 1) xv_X3_120 (rfl : xk 1 = 3) rfl rfl (by decide) (kX3_readNumber O C.2.2.2.2.1 N 0 9 q1.2 q2 hq2) (Nat.le_of_ble_eq_true rfl) (Nat.le_of_ble_eq_true rfl) (Nat.le_of_ble_eq_true rfl) (Nat.le_of_ble_eq_true rfl) rfl hl.1 rfl (Nat.le_of_ble_eq_true rfl) dX3_readGuild_39 (fun H locs X => ?_)
  obtain ⟨h_1, hF⟩ := chk_some hF
  obtain ⟨S1, eS1, hF⟩ := lt_some hF
  refine x_wI C O.1 X (k := T1 + 5) (xs_9_6 hk_T1).1 (n := 6) (xs_9_6 hk_T1).2  (inb_vp h_1) rfl eS1 dX3_readGuild_42 (fun H locs X => ?_)
  refine lv_aload_n C.1.1 C.1.2.1 dX3_readGuild_43 rfl (lv_at hl 0 rfl) ?_
  obtain ⟨T2, eT2, hF⟩ := lt_some hF
  have hk_T2 := xdr_k eT2
  refine xg_X3_21 C O.1 X (T := T2) eT2 (k := 1) rfl dX3_readGuild_44 ?_
  refine xg_X3_139 C O.1 X (k := T2) hk_T2 (j := T2 + 6) rfl dX3_readGuild_47 ?_
  refine lv_iload_n C.1.1 C.1.2.1 dX3_readGuild_50 rfl (lv_at hl 1 rfl) ?_
  refine lv_aload_n C.1.1 C.1.2.1 dX3_readGuild_51 rfl (lv_at hl 0 rfl) ?_
  refine lv_iconst (v := 0) C.1.1 C.1.2.1 dX3_readGuild_52 (by decide) ?_
  refine lv_bipush (v := 99) C.1.1 C.1.2.1 dX3_readGuild_53 (by decide) ?_
  obtain ⟨q3, hq3, hF⟩ := bnd_some hF
  refine x_callVi C X (k := 1) xv_X3_120 (rfl : xk 1 = 3) rfl rfl (by decide) (kX3_readNumber O C.2.2.2.2.1 N 0 99 S1 q3 hq3) (Nat.le_of_ble_eq_true rfl) (Nat.le_of_ble_eq_true rfl) (Nat.le_of_ble_eq_true rfl) (Nat.le_of_ble_eq_true rfl) rfl hl.1 rfl (Nat.le_of_ble_eq_true rfl) dX3_readGuild_55 (fun H locs X => ?_)
  obtain ⟨h_2, hF⟩ := chk_some hF
  obtain ⟨S2, eS2, hF⟩ := lt_some hF
  refine x_wI C O.1 X (k := T2 + 6) (xs_9_7 hk_T2).1 (n := 6) (xs_9_7 hk_T2).2  (inb_vp h_2) rfl eS2 dX3_readGuild_58 (fun H locs X => ?_)
  refine lv_aload_n C.1.1 C.1.2.1 dX3_readGuild_59 rfl (lv_at hl 0 rfl) ?_
  obtain ⟨T3, eT3, hF⟩ := lt_some hF
  have hk_T3 := xdr_k eT3
  refine xg_X3_21 C O.1 X (T := T3) eT3 (k := 1) rfl dX3_readGuild_60 ?_
  refine xg_X3_142 C O.1 X (k := T3) hk_T3 (j := T3 + 7) rfl dX3_readGuild_63 ?_
  refine lv_iload_n C.1.1 C.1.2.1 dX3_readGuild_66 rfl (lv_at hl 1 rfl) ?_
  refine lv_aload_n C.1.1 C.1.2.1 dX3_readGuild_67 rfl (lv_at hl 0 rfl) ?_
  refine lv_iconst (v := 0) C.1.1 C.1.2.1 dX3_readGuild_68 (by decide) ?_
  refine lv_sipush (v := 999) C.1.1 C.1.2.1 dX3_readGuild_69 (by decide) ?_
  obtain ⟨q4, hq4, hF⟩ := bnd_some hF
  refine x_callVi C X (k := 1) xv_X3_120 (rfl : xk 1 = 3) rfl rfl (by decide) (kX3_readNumber O C.2.2.2.2.1 N 0 999 S2 q4 hq4) (Nat.le_of_ble_eq_true rfl) (Nat.le_of_ble_eq_true rfl) (Nat.le_of_ble_eq_true rfl) (Nat.le_of_ble_eq_true rfl) rfl hl.1 rfl (Nat.le_of_ble_eq_true rfl) dX3_readGuild_72 (fun H locs X => ?_)
  obtain ⟨h_3, hF⟩ := chk_some hF
  obtain ⟨S3, eS3, hF⟩ := lt_some hF
  refine x_wI C O.1 X (k := T3 + 7) (xs_9_8 hk_T3).1 (n := 6) (xs_9_8 hk_T3).2  (inb_vp h_3) rfl eS3 dX3_readGuild_75 (fun H locs X => ?_)
  refine lv_aload_n C.1.1 C.1.2.1 dX3_readGuild_76 rfl (lv_at hl 0 rfl) ?_
  obtain ⟨T4, eT4, hF⟩ := lt_some hF
  have hk_T4 := xdr_k eT4
  refine xg_X3_21 C O.1 X (T := T4) eT4 (k := 1) rfl dX3_readGuild_77 ?_
  refine xg_X3_145 C O.1 X (k := T4) hk_T4 (j := T4 + 8) rfl dX3_readGuild_80 ?_
  refine lv_iload_n C.1.1 C.1.2.1 dX3_readGuild_83 rfl (lv_at hl 1 rfl) ?_
  refine lv_iconst (v := (-1)) C.1.1 C.1.2.1 dX3_readGuild_84 (by decide) ?_
  obtain ⟨h_4, hF⟩ := chk_some hF
  obtain ⟨S4, eS4, hF⟩ := lt_some hF
  refine x_wI C O.1 X (k := T4 + 8) (xs_9_9 hk_T4).1 (n := 6) (xs_9_9 hk_T4).2  (inb_vp h_4) rfl eS4 dX3_readGuild_85 (fun H locs X => ?_)
  refine lv_aload_n C.1.1 C.1.2.1 dX3_readGuild_86 rfl (lv_at hl 0 rfl) ?_
  obtain ⟨q5, hq5, hF⟩ := bnd_some hF
  refine x_callVi C X (k := 1) xv_X3_39 (rfl : xk 1 = 3) rfl rfl (by decide) (kX3_isFine O.1 C.2.2.2.2.1 N S4 q5 hq5) (Nat.le_of_ble_eq_true rfl) (Nat.le_of_ble_eq_true rfl) (Nat.le_of_ble_eq_true rfl) (Nat.le_of_ble_eq_true rfl) rfl hl.1 rfl (Nat.le_of_ble_eq_true rfl) dX3_readGuild_87 (fun H locs X => ?_)
  refine lv_if_eq (tgt := 125) C.1.1 C.1.2.1 dX3_readGuild_90 (by decide) (fun h_z => ?_) (fun h_z => ?_)
  · rw [if_pos h_z] at hF
    exact bX3_readGuild_125 C O X (lv_sub hl [0] rfl) hF
  · rw [if_neg h_z] at hF
    exact bX3_readGuild_93 C O X (lv_sub hl [0, 1] rfl) hF
noncomputable def fX3_readGuild_b14 (N : Nat) (S : gS) : Option (Int32 × gS) := bnd (fX3_refuse N 2 S) fun q1 => (some (0, q1.2))
theorem bX3_readGuild_14 {N : Nat} {S : gS} {H : Heap} {locs : List Loc} {ls : Array Slot} {o : Int32 × gS} (C : gC p s m args meth c cX3_readGuild 2 RX3 none D (xtys cI cB cZ cQ) xord g Am) (O : xsO g cI cB cZ cQ Am aK aV) (X : gX D (xcell g cI cB cZ cQ) xord g S s H locs) (hl : lv_has ls 2 [(0, .ref (g 1))]) (hF : fX3_readGuild_b14 N S = some o) : W p l e (rmd 8) s m args below meth c H locs 0 0 (gE below args s D (xtys cI cB cZ cQ) (xcell g cI cB cZ cQ) xord g none o.2) (F0 m 14 ls []) := by
  unfold fX3_readGuild_b14 at hF
  refine lv_aload_n C.1.1 C.1.2.1 dX3_readGuild_14 rfl (lv_at hl 0 rfl) ?_
  refine lv_iconst (v := 2) C.1.1 C.1.2.1 dX3_readGuild_15 (by decide) ?_
  obtain ⟨q1, hq1, hF⟩ := bnd_some hF
  refine x_callV C X (k := 1) xv_X3_60 (rfl : xk 1 = 3) rfl rfl (by decide) (kX3_refuse O.1 C.2.2.2.2.1 N 2 S q1 hq1) (Nat.le_of_ble_eq_true rfl) (Nat.le_of_ble_eq_true rfl) (Nat.le_of_ble_eq_true rfl) (Nat.le_of_ble_eq_true rfl) rfl hl.1 rfl (Nat.le_of_ble_eq_true rfl) dX3_readGuild_16 (fun H locs X => ?_)
  cases hF
  exact g_vret C X dX3_readGuild_19
noncomputable def fX3_readGuild_b0 (N : Nat) (S : gS) : Option (Int32 × gS) := lt (xdr S) fun T1 => (if (S T1 5) < 6 then fX3_readGuild_b20 N (S T1 5) S else fX3_readGuild_b14 N S)
theorem bX3_readGuild_0 {N : Nat} {S : gS} {H : Heap} {locs : List Loc} {ls : Array Slot} {o : Int32 × gS} (C : gC p s m args meth c cX3_readGuild 2 RX3 none D (xtys cI cB cZ cQ) xord g Am) (O : xsO g cI cB cZ cQ Am aK aV) (X : gX D (xcell g cI cB cZ cQ) xord g S s H locs) (hl : lv_has ls 2 [(0, .ref (g 1))]) (hF : fX3_readGuild_b0 N S = some o) : W p l e (rmd 8) s m args below meth c H locs 0 0 (gE below args s D (xtys cI cB cZ cQ) (xcell g cI cB cZ cQ) xord g none o.2) (F0 m 0 ls []) := by
  unfold fX3_readGuild_b0 at hF
  refine lv_aload_n C.1.1 C.1.2.1 dX3_readGuild_0 rfl (lv_at hl 0 rfl) ?_
  obtain ⟨T1, eT1, hF⟩ := lt_some hF
  have hk_T1 := xdr_k eT1
  refine xg_X3_21 C O.1 X (T := T1) eT1 (k := 1) rfl dX3_readGuild_1 ?_
  refine xg_X3_133 C O.1 X (k := T1) hk_T1 dX3_readGuild_4 ?_
  refine lv_istore_n (lv' := [(1, .int (S T1 5)), (0, .ref (g 1))]) C.1.1 C.1.2.1 dX3_readGuild_7 rfl hl (by decide) rfl (fun ls hl => ?_)
  refine lv_iload_n C.1.1 C.1.2.1 dX3_readGuild_8 rfl (lv_at hl 0 rfl) ?_
  refine lv_bipush (v := 6) C.1.1 C.1.2.1 dX3_readGuild_9 (by decide) ?_
  refine lv_icmp_lt (tgt := 20) C.1.1 C.1.2.1 dX3_readGuild_11 (by decide) (fun h_z => ?_) (fun h_z => ?_)
  · rw [if_pos h_z] at hF
    exact bX3_readGuild_20 C O X (lv_sub hl [1, 0] rfl) hF
  · rw [if_neg h_z] at hF
    exact bX3_readGuild_14 C O X (lv_sub hl [1] rfl) hF
noncomputable def fX3_readGuild (N : Nat) (S : gS) : Option (Int32 × gS) := fX3_readGuild_b0 N S
theorem kX3_readGuild {l : Launch} {D : va_G} {g : Nat → Nat} {cI cB cZ cQ : ClassId} {Am : (Nat → Prop) → State → Heap → Prop} {aK aV : Nat → Nat} (O : xsO g cI cB cZ cQ Am aK aV) (P : gAm Am) (N : Nat) (S : gS) (o : Int32 × gS) (hF : fX3_readGuild N S = some o) : gM l yX3_readGuild cX3_readGuild 2 none 8 D (xtys cI cB cZ cQ) (xcell g cI cB cZ cQ) xord g Am [.ref (g 1)] S none o.2 :=
  gM_of O.1.1 P (by decide) (Nat.le_of_ble_eq_true rfl) (fun p e s m args below meth c ls C X hl => bX3_readGuild_0 C O X (lv_sub hl [0] rfl) hF)
-- X3.readProduct
noncomputable def fX3_readProduct_b94 (N : Nat) (rE : Nat → Int32 → gS → Option (Int32 × gS)) (S : gS) : Option (Int32 × gS) := some (0, S)
theorem bX3_readProduct_94 {N : Nat} {rE : Nat → Int32 → gS → Option (Int32 × gS)} {d0 : Nat} {S : gS} {H : Heap} {locs : List Loc} {ls : Array Slot} {o : Int32 × gS} (C : gC p s m args meth c cX3_readProduct 5 RX3 none D (xtys cI cB cZ cQ) xord g Am) (O : xsO g cI cB cZ cQ Am aK aV) (hd0 : 12 ≤ d0) (KE : ∀ (k1 : Nat) (hk_k1 : xk k1 = 4) (x : Int32) (S : gS) (o : Int32 × gS), rE k1 x S = some o → gM l yX3_readExpr cX3_readExpr 4 none d0 D (xtys cI cB cZ cQ) (xcell g cI cB cZ cQ) xord g Am [.ref (g 1), .ref (g k1), .int x] S none o.2) (X : gX D (xcell g cI cB cZ cQ) xord g S s H locs) (hl : lv_has ls 5 []) (hF : fX3_readProduct_b94 N rE S = some o) : W p l e (rmd (d0 + 2)) s m args below meth c H locs 0 0 (gE below args s D (xtys cI cB cZ cQ) (xcell g cI cB cZ cQ) xord g none o.2) (F0 m 94 ls []) := by
  unfold fX3_readProduct_b94 at hF
  cases hF
  exact g_vret C X dX3_readProduct_94
noncomputable def fX3_readProduct_b67 (N : Nat) (rE : Nat → Int32 → gS → Option (Int32 × gS)) (r8 : Nat → Int32 → Int32 → gS → Option (Int32 × gS)) (k1 : Nat) (x2 : Int32) (x3 : Int32) (t0 : Int32) (S : gS) : Option (Int32 × gS) := bnd (fX8_advance N S) fun q1 => (bnd (fX3_readPart N rE k1 x2 q1.2) fun q2 => (bnd (fX4_add N k1 t0 q2.2) fun q3 => (r8 k1 x2 ((x3 + 1 : Int32)) q3.2)))
theorem bX3_readProduct_67 {N : Nat} {rE : Nat → Int32 → gS → Option (Int32 × gS)} {d0 : Nat} {r8 : Nat → Int32 → Int32 → gS → Option (Int32 × gS)} {k1 : Nat} {x2 : Int32} {x3 : Int32} {t0 : Int32} {S : gS} {H : Heap} {locs : List Loc} {ls : Array Slot} {o : Int32 × gS} (C : gC p s m args meth c cX3_readProduct 5 RX3 none D (xtys cI cB cZ cQ) xord g Am) (O : xsO g cI cB cZ cQ Am aK aV) (hd0 : 12 ≤ d0) (KE : ∀ (k1 : Nat) (hk_k1 : xk k1 = 4) (x : Int32) (S : gS) (o : Int32 × gS), rE k1 x S = some o → gM l yX3_readExpr cX3_readExpr 4 none d0 D (xtys cI cB cZ cQ) (xcell g cI cB cZ cQ) xord g Am [.ref (g 1), .ref (g k1), .int x] S none o.2) (K8 : ∀ (k1 : Nat) (x2 : Int32) (x3 : Int32) (hk_k1 : xk k1 = 4) (S : gS) (H : Heap) (locs : List Loc) (ls : Array Slot), gX D (xcell g cI cB cZ cQ) xord g S s H locs → lv_has ls 5 [(0, .ref (g 1)), (1, .ref (g k1)), (2, .int x2), (3, .int x3)] → r8 k1 x2 x3 S = some o → W p l e (rmd (d0 + 2)) s m args below meth c H locs 0 0 (gE below args s D (xtys cI cB cZ cQ) (xcell g cI cB cZ cQ) xord g none o.2) (F0 m 8 ls [])) (hk_k1 : xk k1 = 4) (X : gX D (xcell g cI cB cZ cQ) xord g S s H locs) (hl : lv_has ls 5 [(0, .ref (g 1)), (1, .ref (g k1)), (2, .int x2), (3, .int x3)]) (hF : fX3_readProduct_b67 N rE r8 k1 x2 x3 t0 S = some o) : W p l e (rmd (d0 + 2)) s m args below meth c H locs 0 0 (gE below args s D (xtys cI cB cZ cQ) (xcell g cI cB cZ cQ) xord g none o.2) (F0 m 67 ls [.int t0]) := by
  unfold fX3_readProduct_b67 at hF
  refine lv_istore (lv' := [(4, .int t0), (0, .ref (g 1)), (1, .ref (g k1)), (2, .int x2), (3, .int x3)]) C.1.1 C.1.2.1 dX3_readProduct_67 hl (by decide) rfl (fun ls hl => ?_)
  refine lv_aload_n C.1.1 C.1.2.1 dX3_readProduct_69 rfl (lv_at hl 1 rfl) ?_
  refine xg_X3_12 C O.1 X (k := 1) rfl (j := 2) rfl dX3_readProduct_70 ?_
  obtain ⟨q1, hq1, hF⟩ := bnd_some hF
  refine x_callV C X (k := 2) xv_X3_63 (rfl : xk 2 = 8) rfl rfl (by decide) (kX8_advance O C.2.2.2.2.1 N S q1 hq1) (by simp only [rmd]; omega) (by simp only [rmd]; omega) (Nat.zero_le _) (Nat.zero_le _) rfl hl.1 rfl (Nat.le_of_ble_eq_true rfl) dX3_readProduct_73 (fun H locs X => ?_)
  refine lv_aload_n C.1.1 C.1.2.1 dX3_readProduct_76 rfl (lv_at hl 1 rfl) ?_
  refine lv_aload_n C.1.1 C.1.2.1 dX3_readProduct_77 rfl (lv_at hl 2 rfl) ?_
  refine lv_iload_n C.1.1 C.1.2.1 dX3_readProduct_78 rfl (lv_at hl 3 rfl) ?_
  obtain ⟨q2, hq2, hF⟩ := bnd_some hF
  refine x_callV C X (k := 1) xv_X3_204 (rfl : xk 1 = 3) rfl rfl (by decide) (kX3_readPart O C.2.2.2.2.1 N hd0 KE k1 x2 (hk_k1 : xk k1 = 4) q1.2 q2 hq2) (by simp only [rmd]; omega) (by simp only [rmd]; omega) (Nat.zero_le _) (Nat.zero_le _) rfl hl.1 rfl (Nat.le_of_ble_eq_true rfl) dX3_readProduct_79 (fun H locs X => ?_)
  refine lv_aload_n C.1.1 C.1.2.1 dX3_readProduct_82 rfl (lv_at hl 2 rfl) ?_
  refine lv_iload C.1.1 C.1.2.1 dX3_readProduct_83 (lv_at hl 0 rfl) ?_
  obtain ⟨q3, hq3, hF⟩ := bnd_some hF
  refine x_callV C X (k := k1) xv_X3_185 hk_k1 rfl rfl (by decide) (kX4_add O.1 C.2.2.2.2.1 N k1 t0 (hk_k1 : xk k1 = 4) q2.2 q3 hq3) (by simp only [rmd]; omega) (by simp only [rmd]; omega) (Nat.zero_le _) (Nat.zero_le _) rfl hl.1 rfl (Nat.le_of_ble_eq_true rfl) dX3_readProduct_85 (fun H locs X => ?_)
  refine lv_iinc (v := (x3 + 1 : Int32)) (lv' := [(3, .int ((x3 + 1 : Int32))), (4, .int t0), (0, .ref (g 1)), (1, .ref (g k1)), (2, .int x2)]) C.1.1 C.1.2.1 dX3_readProduct_88 hl (k := 4) rfl rfl (by decide) rfl (fun ls hl => ?_)
  refine lv_goto (tgt := 8) C.1.1 C.1.2.1 dX3_readProduct_91 (by decide) ?_
  exact K8 _ _ _ (hk_k1 : xk k1 = 4) _ _ _ _ X (lv_sub hl [2, 3, 4, 0] rfl) hF
noncomputable def fX3_readProduct_b64 (N : Nat) (rE : Nat → Int32 → gS → Option (Int32 × gS)) (r8 : Nat → Int32 → Int32 → gS → Option (Int32 × gS)) (k1 : Nat) (x2 : Int32) (x3 : Int32) (S : gS) : Option (Int32 × gS) := fX3_readProduct_b67 N rE r8 k1 x2 x3 10018 S
theorem bX3_readProduct_64 {N : Nat} {rE : Nat → Int32 → gS → Option (Int32 × gS)} {d0 : Nat} {r8 : Nat → Int32 → Int32 → gS → Option (Int32 × gS)} {k1 : Nat} {x2 : Int32} {x3 : Int32} {S : gS} {H : Heap} {locs : List Loc} {ls : Array Slot} {o : Int32 × gS} (C : gC p s m args meth c cX3_readProduct 5 RX3 none D (xtys cI cB cZ cQ) xord g Am) (O : xsO g cI cB cZ cQ Am aK aV) (hd0 : 12 ≤ d0) (KE : ∀ (k1 : Nat) (hk_k1 : xk k1 = 4) (x : Int32) (S : gS) (o : Int32 × gS), rE k1 x S = some o → gM l yX3_readExpr cX3_readExpr 4 none d0 D (xtys cI cB cZ cQ) (xcell g cI cB cZ cQ) xord g Am [.ref (g 1), .ref (g k1), .int x] S none o.2) (K8 : ∀ (k1 : Nat) (x2 : Int32) (x3 : Int32) (hk_k1 : xk k1 = 4) (S : gS) (H : Heap) (locs : List Loc) (ls : Array Slot), gX D (xcell g cI cB cZ cQ) xord g S s H locs → lv_has ls 5 [(0, .ref (g 1)), (1, .ref (g k1)), (2, .int x2), (3, .int x3)] → r8 k1 x2 x3 S = some o → W p l e (rmd (d0 + 2)) s m args below meth c H locs 0 0 (gE below args s D (xtys cI cB cZ cQ) (xcell g cI cB cZ cQ) xord g none o.2) (F0 m 8 ls [])) (hk_k1 : xk k1 = 4) (X : gX D (xcell g cI cB cZ cQ) xord g S s H locs) (hl : lv_has ls 5 [(0, .ref (g 1)), (1, .ref (g k1)), (2, .int x2), (3, .int x3)]) (hF : fX3_readProduct_b64 N rE r8 k1 x2 x3 S = some o) : W p l e (rmd (d0 + 2)) s m args below meth c H locs 0 0 (gE below args s D (xtys cI cB cZ cQ) (xcell g cI cB cZ cQ) xord g none o.2) (F0 m 64 ls []) := by
  unfold fX3_readProduct_b64 at hF
  refine lv_sipush (v := 10018) C.1.1 C.1.2.1 dX3_readProduct_64 (by decide) ?_
  exact bX3_readProduct_67 C O hd0 KE K8 (hk_k1 : xk k1 = 4) X (lv_sub hl [0, 1, 2, 3] rfl) hF
noncomputable def fX3_readProduct_b58 (N : Nat) (rE : Nat → Int32 → gS → Option (Int32 × gS)) (r8 : Nat → Int32 → Int32 → gS → Option (Int32 × gS)) (k1 : Nat) (x2 : Int32) (x3 : Int32) (S : gS) : Option (Int32 × gS) := fX3_readProduct_b67 N rE r8 k1 x2 x3 10017 S
theorem bX3_readProduct_58 {N : Nat} {rE : Nat → Int32 → gS → Option (Int32 × gS)} {d0 : Nat} {r8 : Nat → Int32 → Int32 → gS → Option (Int32 × gS)} {k1 : Nat} {x2 : Int32} {x3 : Int32} {S : gS} {H : Heap} {locs : List Loc} {ls : Array Slot} {o : Int32 × gS} (C : gC p s m args meth c cX3_readProduct 5 RX3 none D (xtys cI cB cZ cQ) xord g Am) (O : xsO g cI cB cZ cQ Am aK aV) (hd0 : 12 ≤ d0) (KE : ∀ (k1 : Nat) (hk_k1 : xk k1 = 4) (x : Int32) (S : gS) (o : Int32 × gS), rE k1 x S = some o → gM l yX3_readExpr cX3_readExpr 4 none d0 D (xtys cI cB cZ cQ) (xcell g cI cB cZ cQ) xord g Am [.ref (g 1), .ref (g k1), .int x] S none o.2) (K8 : ∀ (k1 : Nat) (x2 : Int32) (x3 : Int32) (hk_k1 : xk k1 = 4) (S : gS) (H : Heap) (locs : List Loc) (ls : Array Slot), gX D (xcell g cI cB cZ cQ) xord g S s H locs → lv_has ls 5 [(0, .ref (g 1)), (1, .ref (g k1)), (2, .int x2), (3, .int x3)] → r8 k1 x2 x3 S = some o → W p l e (rmd (d0 + 2)) s m args below meth c H locs 0 0 (gE below args s D (xtys cI cB cZ cQ) (xcell g cI cB cZ cQ) xord g none o.2) (F0 m 8 ls [])) (hk_k1 : xk k1 = 4) (X : gX D (xcell g cI cB cZ cQ) xord g S s H locs) (hl : lv_has ls 5 [(0, .ref (g 1)), (1, .ref (g k1)), (2, .int x2), (3, .int x3)]) (hF : fX3_readProduct_b58 N rE r8 k1 x2 x3 S = some o) : W p l e (rmd (d0 + 2)) s m args below meth c H locs 0 0 (gE below args s D (xtys cI cB cZ cQ) (xcell g cI cB cZ cQ) xord g none o.2) (F0 m 58 ls []) := by
  unfold fX3_readProduct_b58 at hF
  refine lv_sipush (v := 10017) C.1.1 C.1.2.1 dX3_readProduct_58 (by decide) ?_
  refine lv_goto (tgt := 67) C.1.1 C.1.2.1 dX3_readProduct_61 (by decide) ?_
  exact bX3_readProduct_67 C O hd0 KE K8 (hk_k1 : xk k1 = 4) X (lv_sub hl [0, 1, 2, 3] rfl) hF
noncomputable def fX3_readProduct_b46 (N : Nat) (rE : Nat → Int32 → gS → Option (Int32 × gS)) (r8 : Nat → Int32 → Int32 → gS → Option (Int32 × gS)) (k1 : Nat) (x2 : Int32) (x3 : Int32) (S : gS) : Option (Int32 × gS) := bnd (fX8_isAtSign N 42 S) fun q1 => (if q1.1 = 0 then fX3_readProduct_b64 N rE r8 k1 x2 x3 q1.2 else fX3_readProduct_b58 N rE r8 k1 x2 x3 q1.2)
theorem bX3_readProduct_46 {N : Nat} {rE : Nat → Int32 → gS → Option (Int32 × gS)} {d0 : Nat} {r8 : Nat → Int32 → Int32 → gS → Option (Int32 × gS)} {k1 : Nat} {x2 : Int32} {x3 : Int32} {S : gS} {H : Heap} {locs : List Loc} {ls : Array Slot} {o : Int32 × gS} (C : gC p s m args meth c cX3_readProduct 5 RX3 none D (xtys cI cB cZ cQ) xord g Am) (O : xsO g cI cB cZ cQ Am aK aV) (hd0 : 12 ≤ d0) (KE : ∀ (k1 : Nat) (hk_k1 : xk k1 = 4) (x : Int32) (S : gS) (o : Int32 × gS), rE k1 x S = some o → gM l yX3_readExpr cX3_readExpr 4 none d0 D (xtys cI cB cZ cQ) (xcell g cI cB cZ cQ) xord g Am [.ref (g 1), .ref (g k1), .int x] S none o.2) (K8 : ∀ (k1 : Nat) (x2 : Int32) (x3 : Int32) (hk_k1 : xk k1 = 4) (S : gS) (H : Heap) (locs : List Loc) (ls : Array Slot), gX D (xcell g cI cB cZ cQ) xord g S s H locs → lv_has ls 5 [(0, .ref (g 1)), (1, .ref (g k1)), (2, .int x2), (3, .int x3)] → r8 k1 x2 x3 S = some o → W p l e (rmd (d0 + 2)) s m args below meth c H locs 0 0 (gE below args s D (xtys cI cB cZ cQ) (xcell g cI cB cZ cQ) xord g none o.2) (F0 m 8 ls [])) (hk_k1 : xk k1 = 4) (X : gX D (xcell g cI cB cZ cQ) xord g S s H locs) (hl : lv_has ls 5 [(0, .ref (g 1)), (1, .ref (g k1)), (2, .int x2), (3, .int x3)]) (hF : fX3_readProduct_b46 N rE r8 k1 x2 x3 S = some o) : W p l e (rmd (d0 + 2)) s m args below meth c H locs 0 0 (gE below args s D (xtys cI cB cZ cQ) (xcell g cI cB cZ cQ) xord g none o.2) (F0 m 46 ls []) := by
  unfold fX3_readProduct_b46 at hF
  refine lv_aload_n C.1.1 C.1.2.1 dX3_readProduct_46 rfl (lv_at hl 0 rfl) ?_
  refine xg_X3_12 C O.1 X (k := 1) rfl (j := 2) rfl dX3_readProduct_47 ?_
  refine lv_bipush (v := 42) C.1.1 C.1.2.1 dX3_readProduct_50 (by decide) ?_
  obtain ⟨q1, hq1, hF⟩ := bnd_some hF
  refine x_callVi C X (k := 2) xv_X3_56 (rfl : xk 2 = 8) rfl rfl (by decide) (kX8_isAtSign O.1 C.2.2.2.2.1 N 42 S q1 hq1) (by simp only [rmd]; omega) (by simp only [rmd]; omega) (Nat.zero_le _) (Nat.zero_le _) rfl hl.1 rfl (Nat.le_of_ble_eq_true rfl) dX3_readProduct_52 (fun H locs X => ?_)
  refine lv_if_eq (tgt := 64) C.1.1 C.1.2.1 dX3_readProduct_55 (by decide) (fun h_z => ?_) (fun h_z => ?_)
  · rw [if_pos h_z] at hF
    exact bX3_readProduct_64 C O hd0 KE K8 (hk_k1 : xk k1 = 4) X (lv_sub hl [0, 1, 2, 3] rfl) hF
  · rw [if_neg h_z] at hF
    exact bX3_readProduct_58 C O hd0 KE K8 (hk_k1 : xk k1 = 4) X (lv_sub hl [0, 1, 2, 3] rfl) hF
noncomputable def fX3_readProduct_b34 (N : Nat) (rE : Nat → Int32 → gS → Option (Int32 × gS)) (r8 : Nat → Int32 → Int32 → gS → Option (Int32 × gS)) (k1 : Nat) (x2 : Int32) (x3 : Int32) (S : gS) : Option (Int32 × gS) := bnd (fX8_isAtSign N 47 S) fun q1 => (if q1.1 = 0 then fX3_readProduct_b94 N rE q1.2 else fX3_readProduct_b46 N rE r8 k1 x2 x3 q1.2)
theorem bX3_readProduct_34 {N : Nat} {rE : Nat → Int32 → gS → Option (Int32 × gS)} {d0 : Nat} {r8 : Nat → Int32 → Int32 → gS → Option (Int32 × gS)} {k1 : Nat} {x2 : Int32} {x3 : Int32} {S : gS} {H : Heap} {locs : List Loc} {ls : Array Slot} {o : Int32 × gS} (C : gC p s m args meth c cX3_readProduct 5 RX3 none D (xtys cI cB cZ cQ) xord g Am) (O : xsO g cI cB cZ cQ Am aK aV) (hd0 : 12 ≤ d0) (KE : ∀ (k1 : Nat) (hk_k1 : xk k1 = 4) (x : Int32) (S : gS) (o : Int32 × gS), rE k1 x S = some o → gM l yX3_readExpr cX3_readExpr 4 none d0 D (xtys cI cB cZ cQ) (xcell g cI cB cZ cQ) xord g Am [.ref (g 1), .ref (g k1), .int x] S none o.2) (K8 : ∀ (k1 : Nat) (x2 : Int32) (x3 : Int32) (hk_k1 : xk k1 = 4) (S : gS) (H : Heap) (locs : List Loc) (ls : Array Slot), gX D (xcell g cI cB cZ cQ) xord g S s H locs → lv_has ls 5 [(0, .ref (g 1)), (1, .ref (g k1)), (2, .int x2), (3, .int x3)] → r8 k1 x2 x3 S = some o → W p l e (rmd (d0 + 2)) s m args below meth c H locs 0 0 (gE below args s D (xtys cI cB cZ cQ) (xcell g cI cB cZ cQ) xord g none o.2) (F0 m 8 ls [])) (hk_k1 : xk k1 = 4) (X : gX D (xcell g cI cB cZ cQ) xord g S s H locs) (hl : lv_has ls 5 [(0, .ref (g 1)), (1, .ref (g k1)), (2, .int x2), (3, .int x3)]) (hF : fX3_readProduct_b34 N rE r8 k1 x2 x3 S = some o) : W p l e (rmd (d0 + 2)) s m args below meth c H locs 0 0 (gE below args s D (xtys cI cB cZ cQ) (xcell g cI cB cZ cQ) xord g none o.2) (F0 m 34 ls []) := by
  unfold fX3_readProduct_b34 at hF
  refine lv_aload_n C.1.1 C.1.2.1 dX3_readProduct_34 rfl (lv_at hl 0 rfl) ?_
  refine xg_X3_12 C O.1 X (k := 1) rfl (j := 2) rfl dX3_readProduct_35 ?_
  refine lv_bipush (v := 47) C.1.1 C.1.2.1 dX3_readProduct_38 (by decide) ?_
  obtain ⟨q1, hq1, hF⟩ := bnd_some hF
  refine x_callVi C X (k := 2) xv_X3_56 (rfl : xk 2 = 8) rfl rfl (by decide) (kX8_isAtSign O.1 C.2.2.2.2.1 N 47 S q1 hq1) (by simp only [rmd]; omega) (by simp only [rmd]; omega) (Nat.zero_le _) (Nat.zero_le _) rfl hl.1 rfl (Nat.le_of_ble_eq_true rfl) dX3_readProduct_40 (fun H locs X => ?_)
  refine lv_if_eq (tgt := 94) C.1.1 C.1.2.1 dX3_readProduct_43 (by decide) (fun h_z => ?_) (fun h_z => ?_)
  · rw [if_pos h_z] at hF
    exact bX3_readProduct_94 C O hd0 KE X (lv_sub hl [] rfl) hF
  · rw [if_neg h_z] at hF
    exact bX3_readProduct_46 C O hd0 KE K8 (hk_k1 : xk k1 = 4) X (lv_sub hl [0, 1, 2, 3] rfl) hF
noncomputable def fX3_readProduct_b22 (N : Nat) (rE : Nat → Int32 → gS → Option (Int32 × gS)) (r8 : Nat → Int32 → Int32 → gS → Option (Int32 × gS)) (k1 : Nat) (x2 : Int32) (x3 : Int32) (S : gS) : Option (Int32 × gS) := bnd (fX8_isAtSign N 42 S) fun q1 => (if q1.1 = 0 then fX3_readProduct_b34 N rE r8 k1 x2 x3 q1.2 else fX3_readProduct_b46 N rE r8 k1 x2 x3 q1.2)
theorem bX3_readProduct_22 {N : Nat} {rE : Nat → Int32 → gS → Option (Int32 × gS)} {d0 : Nat} {r8 : Nat → Int32 → Int32 → gS → Option (Int32 × gS)} {k1 : Nat} {x2 : Int32} {x3 : Int32} {S : gS} {H : Heap} {locs : List Loc} {ls : Array Slot} {o : Int32 × gS} (C : gC p s m args meth c cX3_readProduct 5 RX3 none D (xtys cI cB cZ cQ) xord g Am) (O : xsO g cI cB cZ cQ Am aK aV) (hd0 : 12 ≤ d0) (KE : ∀ (k1 : Nat) (hk_k1 : xk k1 = 4) (x : Int32) (S : gS) (o : Int32 × gS), rE k1 x S = some o → gM l yX3_readExpr cX3_readExpr 4 none d0 D (xtys cI cB cZ cQ) (xcell g cI cB cZ cQ) xord g Am [.ref (g 1), .ref (g k1), .int x] S none o.2) (K8 : ∀ (k1 : Nat) (x2 : Int32) (x3 : Int32) (hk_k1 : xk k1 = 4) (S : gS) (H : Heap) (locs : List Loc) (ls : Array Slot), gX D (xcell g cI cB cZ cQ) xord g S s H locs → lv_has ls 5 [(0, .ref (g 1)), (1, .ref (g k1)), (2, .int x2), (3, .int x3)] → r8 k1 x2 x3 S = some o → W p l e (rmd (d0 + 2)) s m args below meth c H locs 0 0 (gE below args s D (xtys cI cB cZ cQ) (xcell g cI cB cZ cQ) xord g none o.2) (F0 m 8 ls [])) (hk_k1 : xk k1 = 4) (X : gX D (xcell g cI cB cZ cQ) xord g S s H locs) (hl : lv_has ls 5 [(0, .ref (g 1)), (1, .ref (g k1)), (2, .int x2), (3, .int x3)]) (hF : fX3_readProduct_b22 N rE r8 k1 x2 x3 S = some o) : W p l e (rmd (d0 + 2)) s m args below meth c H locs 0 0 (gE below args s D (xtys cI cB cZ cQ) (xcell g cI cB cZ cQ) xord g none o.2) (F0 m 22 ls []) := by
  unfold fX3_readProduct_b22 at hF
  refine lv_aload_n C.1.1 C.1.2.1 dX3_readProduct_22 rfl (lv_at hl 0 rfl) ?_
  refine xg_X3_12 C O.1 X (k := 1) rfl (j := 2) rfl dX3_readProduct_23 ?_
  refine lv_bipush (v := 42) C.1.1 C.1.2.1 dX3_readProduct_26 (by decide) ?_
  obtain ⟨q1, hq1, hF⟩ := bnd_some hF
  refine x_callVi C X (k := 2) xv_X3_56 (rfl : xk 2 = 8) rfl rfl (by decide) (kX8_isAtSign O.1 C.2.2.2.2.1 N 42 S q1 hq1) (by simp only [rmd]; omega) (by simp only [rmd]; omega) (Nat.zero_le _) (Nat.zero_le _) rfl hl.1 rfl (Nat.le_of_ble_eq_true rfl) dX3_readProduct_28 (fun H locs X => ?_)
  refine lv_if_ne (tgt := 46) C.1.1 C.1.2.1 dX3_readProduct_31 (by decide) (fun h_z => ?_) (fun h_z => ?_)
  · rw [if_neg h_z] at hF
    exact bX3_readProduct_46 C O hd0 KE K8 (hk_k1 : xk k1 = 4) X (lv_sub hl [0, 1, 2, 3] rfl) hF
  · rw [if_pos h_z] at hF
    exact bX3_readProduct_34 C O hd0 KE K8 (hk_k1 : xk k1 = 4) X (lv_sub hl [0, 1, 2, 3] rfl) hF
noncomputable def fX3_readProduct_b15 (N : Nat) (rE : Nat → Int32 → gS → Option (Int32 × gS)) (r8 : Nat → Int32 → Int32 → gS → Option (Int32 × gS)) (k1 : Nat) (x2 : Int32) (x3 : Int32) (S : gS) : Option (Int32 × gS) := bnd (fX3_isFine N S) fun q1 => (if q1.1 = 0 then fX3_readProduct_b94 N rE q1.2 else fX3_readProduct_b22 N rE r8 k1 x2 x3 q1.2)
theorem bX3_readProduct_15 {N : Nat} {rE : Nat → Int32 → gS → Option (Int32 × gS)} {d0 : Nat} {r8 : Nat → Int32 → Int32 → gS → Option (Int32 × gS)} {k1 : Nat} {x2 : Int32} {x3 : Int32} {S : gS} {H : Heap} {locs : List Loc} {ls : Array Slot} {o : Int32 × gS} (C : gC p s m args meth c cX3_readProduct 5 RX3 none D (xtys cI cB cZ cQ) xord g Am) (O : xsO g cI cB cZ cQ Am aK aV) (hd0 : 12 ≤ d0) (KE : ∀ (k1 : Nat) (hk_k1 : xk k1 = 4) (x : Int32) (S : gS) (o : Int32 × gS), rE k1 x S = some o → gM l yX3_readExpr cX3_readExpr 4 none d0 D (xtys cI cB cZ cQ) (xcell g cI cB cZ cQ) xord g Am [.ref (g 1), .ref (g k1), .int x] S none o.2) (K8 : ∀ (k1 : Nat) (x2 : Int32) (x3 : Int32) (hk_k1 : xk k1 = 4) (S : gS) (H : Heap) (locs : List Loc) (ls : Array Slot), gX D (xcell g cI cB cZ cQ) xord g S s H locs → lv_has ls 5 [(0, .ref (g 1)), (1, .ref (g k1)), (2, .int x2), (3, .int x3)] → r8 k1 x2 x3 S = some o → W p l e (rmd (d0 + 2)) s m args below meth c H locs 0 0 (gE below args s D (xtys cI cB cZ cQ) (xcell g cI cB cZ cQ) xord g none o.2) (F0 m 8 ls [])) (hk_k1 : xk k1 = 4) (X : gX D (xcell g cI cB cZ cQ) xord g S s H locs) (hl : lv_has ls 5 [(0, .ref (g 1)), (1, .ref (g k1)), (2, .int x2), (3, .int x3)]) (hF : fX3_readProduct_b15 N rE r8 k1 x2 x3 S = some o) : W p l e (rmd (d0 + 2)) s m args below meth c H locs 0 0 (gE below args s D (xtys cI cB cZ cQ) (xcell g cI cB cZ cQ) xord g none o.2) (F0 m 15 ls []) := by
  unfold fX3_readProduct_b15 at hF
  refine lv_aload_n C.1.1 C.1.2.1 dX3_readProduct_15 rfl (lv_at hl 0 rfl) ?_
  obtain ⟨q1, hq1, hF⟩ := bnd_some hF
  refine x_callVi C X (k := 1) xv_X3_39 (rfl : xk 1 = 3) rfl rfl (by decide) (kX3_isFine O.1 C.2.2.2.2.1 N S q1 hq1) (by simp only [rmd]; omega) (by simp only [rmd]; omega) (Nat.zero_le _) (Nat.zero_le _) rfl hl.1 rfl (Nat.le_of_ble_eq_true rfl) dX3_readProduct_16 (fun H locs X => ?_)
  refine lv_if_eq (tgt := 94) C.1.1 C.1.2.1 dX3_readProduct_19 (by decide) (fun h_z => ?_) (fun h_z => ?_)
  · rw [if_pos h_z] at hF
    exact bX3_readProduct_94 C O hd0 KE X (lv_sub hl [] rfl) hF
  · rw [if_neg h_z] at hF
    exact bX3_readProduct_22 C O hd0 KE K8 (hk_k1 : xk k1 = 4) X (lv_sub hl [0, 1, 2, 3] rfl) hF
noncomputable def fX3_readProduct_b8 (N : Nat) (rE : Nat → Int32 → gS → Option (Int32 × gS)) (r8 : Nat → Int32 → Int32 → gS → Option (Int32 × gS)) (k1 : Nat) (x2 : Int32) (x3 : Int32) (S : gS) : Option (Int32 × gS) := if 700 ≤ x3 then fX3_readProduct_b94 N rE S else fX3_readProduct_b15 N rE r8 k1 x2 x3 S
theorem bX3_readProduct_8 {N : Nat} {rE : Nat → Int32 → gS → Option (Int32 × gS)} {d0 : Nat} {r8 : Nat → Int32 → Int32 → gS → Option (Int32 × gS)} {k1 : Nat} {x2 : Int32} {x3 : Int32} {S : gS} {H : Heap} {locs : List Loc} {ls : Array Slot} {o : Int32 × gS} (C : gC p s m args meth c cX3_readProduct 5 RX3 none D (xtys cI cB cZ cQ) xord g Am) (O : xsO g cI cB cZ cQ Am aK aV) (hd0 : 12 ≤ d0) (KE : ∀ (k1 : Nat) (hk_k1 : xk k1 = 4) (x : Int32) (S : gS) (o : Int32 × gS), rE k1 x S = some o → gM l yX3_readExpr cX3_readExpr 4 none d0 D (xtys cI cB cZ cQ) (xcell g cI cB cZ cQ) xord g Am [.ref (g 1), .ref (g k1), .int x] S none o.2) (K8 : ∀ (k1 : Nat) (x2 : Int32) (x3 : Int32) (hk_k1 : xk k1 = 4) (S : gS) (H : Heap) (locs : List Loc) (ls : Array Slot), gX D (xcell g cI cB cZ cQ) xord g S s H locs → lv_has ls 5 [(0, .ref (g 1)), (1, .ref (g k1)), (2, .int x2), (3, .int x3)] → r8 k1 x2 x3 S = some o → W p l e (rmd (d0 + 2)) s m args below meth c H locs 0 0 (gE below args s D (xtys cI cB cZ cQ) (xcell g cI cB cZ cQ) xord g none o.2) (F0 m 8 ls [])) (hk_k1 : xk k1 = 4) (X : gX D (xcell g cI cB cZ cQ) xord g S s H locs) (hl : lv_has ls 5 [(0, .ref (g 1)), (1, .ref (g k1)), (2, .int x2), (3, .int x3)]) (hF : fX3_readProduct_b8 N rE r8 k1 x2 x3 S = some o) : W p l e (rmd (d0 + 2)) s m args below meth c H locs 0 0 (gE below args s D (xtys cI cB cZ cQ) (xcell g cI cB cZ cQ) xord g none o.2) (F0 m 8 ls []) := by
  unfold fX3_readProduct_b8 at hF
  refine lv_iload_n C.1.1 C.1.2.1 dX3_readProduct_8 rfl (lv_at hl 3 rfl) ?_
  refine lv_sipush (v := 700) C.1.1 C.1.2.1 dX3_readProduct_9 (by decide) ?_
  refine lv_icmp_ge (tgt := 94) C.1.1 C.1.2.1 dX3_readProduct_12 (by decide) (fun h_z => ?_) (fun h_z => ?_)
  · rw [if_pos h_z] at hF
    exact bX3_readProduct_94 C O hd0 KE X (lv_sub hl [] rfl) hF
  · rw [if_neg h_z] at hF
    exact bX3_readProduct_15 C O hd0 KE K8 (hk_k1 : xk k1 = 4) X (lv_sub hl [0, 1, 2, 3] rfl) hF
noncomputable def fX3_readProduct_h8 (N : Nat) (rE : Nat → Int32 → gS → Option (Int32 × gS)) : Nat → Nat → Int32 → Int32 → gS → Option (Int32 × gS)
  | 0, _, _, _, _ => none
  | n + 1, k1, x2, x3, S => fX3_readProduct_b8 N rE (fX3_readProduct_h8 N rE n) k1 x2 x3 S
theorem hX3_readProduct_8 {N : Nat} {rE : Nat → Int32 → gS → Option (Int32 × gS)} {d0 : Nat} {o : Int32 × gS} (C : gC p s m args meth c cX3_readProduct 5 RX3 none D (xtys cI cB cZ cQ) xord g Am) (O : xsO g cI cB cZ cQ Am aK aV) (hd0 : 12 ≤ d0) (KE : ∀ (k1 : Nat) (hk_k1 : xk k1 = 4) (x : Int32) (S : gS) (o : Int32 × gS), rE k1 x S = some o → gM l yX3_readExpr cX3_readExpr 4 none d0 D (xtys cI cB cZ cQ) (xcell g cI cB cZ cQ) xord g Am [.ref (g 1), .ref (g k1), .int x] S none o.2) : ∀ (n : Nat) (k1 : Nat) (x2 : Int32) (x3 : Int32) (hk_k1 : xk k1 = 4) (S : gS) (H : Heap) (locs : List Loc) (ls : Array Slot), gX D (xcell g cI cB cZ cQ) xord g S s H locs → lv_has ls 5 [(0, .ref (g 1)), (1, .ref (g k1)), (2, .int x2), (3, .int x3)] → fX3_readProduct_h8 N rE n k1 x2 x3 S = some o → W p l e (rmd (d0 + 2)) s m args below meth c H locs 0 0 (gE below args s D (xtys cI cB cZ cQ) (xcell g cI cB cZ cQ) xord g none o.2) (F0 m 8 ls []) := by
  intro n
  induction n with
  | zero =>
    intro k1 x2 x3 hk_k1 S H locs ls X hl hF
    exact absurd (show (none : Option (Int32 × gS)) = some o from hF) (by simp)
  | succ n ih =>
    intro k1 x2 x3 hk_k1 S H locs ls X hl hF
    have hF : fX3_readProduct_b8 N rE (fX3_readProduct_h8 N rE n) k1 x2 x3 S = some o := hF
    exact bX3_readProduct_8 C O hd0 KE ih hk_k1 X hl hF
noncomputable def fX3_readProduct_b0 (N : Nat) (rE : Nat → Int32 → gS → Option (Int32 × gS)) (k1 : Nat) (x2 : Int32) (S : gS) : Option (Int32 × gS) := bnd (fX3_readPart N rE k1 x2 S) fun q1 => (fX3_readProduct_h8 N rE N k1 x2 0 q1.2)
theorem bX3_readProduct_0 {N : Nat} {rE : Nat → Int32 → gS → Option (Int32 × gS)} {d0 : Nat} {k1 : Nat} {x2 : Int32} {S : gS} {H : Heap} {locs : List Loc} {ls : Array Slot} {o : Int32 × gS} (C : gC p s m args meth c cX3_readProduct 5 RX3 none D (xtys cI cB cZ cQ) xord g Am) (O : xsO g cI cB cZ cQ Am aK aV) (hd0 : 12 ≤ d0) (KE : ∀ (k1 : Nat) (hk_k1 : xk k1 = 4) (x : Int32) (S : gS) (o : Int32 × gS), rE k1 x S = some o → gM l yX3_readExpr cX3_readExpr 4 none d0 D (xtys cI cB cZ cQ) (xcell g cI cB cZ cQ) xord g Am [.ref (g 1), .ref (g k1), .int x] S none o.2) (hk_k1 : xk k1 = 4) (X : gX D (xcell g cI cB cZ cQ) xord g S s H locs) (hl : lv_has ls 5 [(0, .ref (g 1)), (1, .ref (g k1)), (2, .int x2)]) (hF : fX3_readProduct_b0 N rE k1 x2 S = some o) : W p l e (rmd (d0 + 2)) s m args below meth c H locs 0 0 (gE below args s D (xtys cI cB cZ cQ) (xcell g cI cB cZ cQ) xord g none o.2) (F0 m 0 ls []) := by
  unfold fX3_readProduct_b0 at hF
  refine lv_aload_n C.1.1 C.1.2.1 dX3_readProduct_0 rfl (lv_at hl 0 rfl) ?_
  refine lv_aload_n C.1.1 C.1.2.1 dX3_readProduct_1 rfl (lv_at hl 1 rfl) ?_
  refine lv_iload_n C.1.1 C.1.2.1 dX3_readProduct_2 rfl (lv_at hl 2 rfl) ?_
  obtain ⟨q1, hq1, hF⟩ := bnd_some hF
  refine x_callV C X (k := 1) xv_X3_204 (rfl : xk 1 = 3) rfl rfl (by decide) (kX3_readPart O C.2.2.2.2.1 N hd0 KE k1 x2 (hk_k1 : xk k1 = 4) S q1 hq1) (by simp only [rmd]; omega) (by simp only [rmd]; omega) (Nat.zero_le _) (Nat.zero_le _) rfl hl.1 rfl (Nat.le_of_ble_eq_true rfl) dX3_readProduct_3 (fun H locs X => ?_)
  refine lv_iconst (v := 0) C.1.1 C.1.2.1 dX3_readProduct_6 (by decide) ?_
  refine lv_istore_n (lv' := [(3, .int 0), (0, .ref (g 1)), (1, .ref (g k1)), (2, .int x2)]) C.1.1 C.1.2.1 dX3_readProduct_7 rfl hl (by decide) rfl (fun ls hl => ?_)
  exact hX3_readProduct_8 C O hd0 KE N _ _ _ (hk_k1 : xk k1 = 4) _ _ _ _ X (lv_sub hl [1, 2, 3, 0] rfl) hF
noncomputable def fX3_readProduct (N : Nat) (rE : Nat → Int32 → gS → Option (Int32 × gS)) (k1 : Nat) (x2 : Int32) (S : gS) : Option (Int32 × gS) := fX3_readProduct_b0 N rE k1 x2 S
theorem kX3_readProduct {l : Launch} {D : va_G} {g : Nat → Nat} {cI cB cZ cQ : ClassId} {Am : (Nat → Prop) → State → Heap → Prop} {aK aV : Nat → Nat} (O : xsO g cI cB cZ cQ Am aK aV) (P : gAm Am) (N : Nat) {rE : Nat → Int32 → gS → Option (Int32 × gS)} {d0 : Nat} (hd0 : 12 ≤ d0) (KE : ∀ (k1 : Nat) (hk_k1 : xk k1 = 4) (x : Int32) (S : gS) (o : Int32 × gS), rE k1 x S = some o → gM l yX3_readExpr cX3_readExpr 4 none d0 D (xtys cI cB cZ cQ) (xcell g cI cB cZ cQ) xord g Am [.ref (g 1), .ref (g k1), .int x] S none o.2) (k1 : Nat) (x2 : Int32) (hk_k1 : xk k1 = 4) (S : gS) (o : Int32 × gS) (hF : fX3_readProduct N rE k1 x2 S = some o) : gM l yX3_readProduct cX3_readProduct 5 none (d0 + 2) D (xtys cI cB cZ cQ) (xcell g cI cB cZ cQ) xord g Am [.ref (g 1), .ref (g k1), .int x2] S none o.2 :=
  gM_of O.1.1 P (by decide) (Nat.le_of_ble_eq_true rfl) (fun p e s m args below meth c ls C X hl => bX3_readProduct_0 C O hd0 KE hk_k1 X (lv_sub hl [0, 1, 2] rfl) hF)
-- X3.readSum
noncomputable def fX3_readSum_b94 (N : Nat) (rE : Nat → Int32 → gS → Option (Int32 × gS)) (S : gS) : Option (Int32 × gS) := some (0, S)
theorem bX3_readSum_94 {N : Nat} {rE : Nat → Int32 → gS → Option (Int32 × gS)} {d0 : Nat} {S : gS} {H : Heap} {locs : List Loc} {ls : Array Slot} {o : Int32 × gS} (C : gC p s m args meth c cX3_readSum 5 RX3 none D (xtys cI cB cZ cQ) xord g Am) (O : xsO g cI cB cZ cQ Am aK aV) (hd0 : 12 ≤ d0) (KE : ∀ (k1 : Nat) (hk_k1 : xk k1 = 4) (x : Int32) (S : gS) (o : Int32 × gS), rE k1 x S = some o → gM l yX3_readExpr cX3_readExpr 4 none d0 D (xtys cI cB cZ cQ) (xcell g cI cB cZ cQ) xord g Am [.ref (g 1), .ref (g k1), .int x] S none o.2) (X : gX D (xcell g cI cB cZ cQ) xord g S s H locs) (hl : lv_has ls 5 []) (hF : fX3_readSum_b94 N rE S = some o) : W p l e (rmd (d0 + 3)) s m args below meth c H locs 0 0 (gE below args s D (xtys cI cB cZ cQ) (xcell g cI cB cZ cQ) xord g none o.2) (F0 m 94 ls []) := by
  unfold fX3_readSum_b94 at hF
  cases hF
  exact g_vret C X dX3_readSum_94
noncomputable def fX3_readSum_b67 (N : Nat) (rE : Nat → Int32 → gS → Option (Int32 × gS)) (r8 : Nat → Int32 → Int32 → gS → Option (Int32 × gS)) (k1 : Nat) (x2 : Int32) (x3 : Int32) (t0 : Int32) (S : gS) : Option (Int32 × gS) := bnd (fX8_advance N S) fun q1 => (bnd (fX3_readProduct N rE k1 x2 q1.2) fun q2 => (bnd (fX4_add N k1 t0 q2.2) fun q3 => (r8 k1 x2 ((x3 + 1 : Int32)) q3.2)))
theorem bX3_readSum_67 {N : Nat} {rE : Nat → Int32 → gS → Option (Int32 × gS)} {d0 : Nat} {r8 : Nat → Int32 → Int32 → gS → Option (Int32 × gS)} {k1 : Nat} {x2 : Int32} {x3 : Int32} {t0 : Int32} {S : gS} {H : Heap} {locs : List Loc} {ls : Array Slot} {o : Int32 × gS} (C : gC p s m args meth c cX3_readSum 5 RX3 none D (xtys cI cB cZ cQ) xord g Am) (O : xsO g cI cB cZ cQ Am aK aV) (hd0 : 12 ≤ d0) (KE : ∀ (k1 : Nat) (hk_k1 : xk k1 = 4) (x : Int32) (S : gS) (o : Int32 × gS), rE k1 x S = some o → gM l yX3_readExpr cX3_readExpr 4 none d0 D (xtys cI cB cZ cQ) (xcell g cI cB cZ cQ) xord g Am [.ref (g 1), .ref (g k1), .int x] S none o.2) (K8 : ∀ (k1 : Nat) (x2 : Int32) (x3 : Int32) (hk_k1 : xk k1 = 4) (S : gS) (H : Heap) (locs : List Loc) (ls : Array Slot), gX D (xcell g cI cB cZ cQ) xord g S s H locs → lv_has ls 5 [(0, .ref (g 1)), (1, .ref (g k1)), (2, .int x2), (3, .int x3)] → r8 k1 x2 x3 S = some o → W p l e (rmd (d0 + 3)) s m args below meth c H locs 0 0 (gE below args s D (xtys cI cB cZ cQ) (xcell g cI cB cZ cQ) xord g none o.2) (F0 m 8 ls [])) (hk_k1 : xk k1 = 4) (X : gX D (xcell g cI cB cZ cQ) xord g S s H locs) (hl : lv_has ls 5 [(0, .ref (g 1)), (1, .ref (g k1)), (2, .int x2), (3, .int x3)]) (hF : fX3_readSum_b67 N rE r8 k1 x2 x3 t0 S = some o) : W p l e (rmd (d0 + 3)) s m args below meth c H locs 0 0 (gE below args s D (xtys cI cB cZ cQ) (xcell g cI cB cZ cQ) xord g none o.2) (F0 m 67 ls [.int t0]) := by
  unfold fX3_readSum_b67 at hF
  refine lv_istore (lv' := [(4, .int t0), (0, .ref (g 1)), (1, .ref (g k1)), (2, .int x2), (3, .int x3)]) C.1.1 C.1.2.1 dX3_readSum_67 hl (by decide) rfl (fun ls hl => ?_)
  refine lv_aload_n C.1.1 C.1.2.1 dX3_readSum_69 rfl (lv_at hl 1 rfl) ?_
  refine xg_X3_12 C O.1 X (k := 1) rfl (j := 2) rfl dX3_readSum_70 ?_
  obtain ⟨q1, hq1, hF⟩ := bnd_some hF
  refine x_callV C X (k := 2) xv_X3_63 (rfl : xk 2 = 8) rfl rfl (by decide) (kX8_advance O C.2.2.2.2.1 N S q1 hq1) (by simp only [rmd]; omega) (by simp only [rmd]; omega) (Nat.zero_le _) (Nat.zero_le _) rfl hl.1 rfl (Nat.le_of_ble_eq_true rfl) dX3_readSum_73 (fun H locs X => ?_)
  refine lv_aload_n C.1.1 C.1.2.1 dX3_readSum_76 rfl (lv_at hl 1 rfl) ?_
  refine lv_aload_n C.1.1 C.1.2.1 dX3_readSum_77 rfl (lv_at hl 2 rfl) ?_
  refine lv_iload_n C.1.1 C.1.2.1 dX3_readSum_78 rfl (lv_at hl 3 rfl) ?_
  obtain ⟨q2, hq2, hF⟩ := bnd_some hF
  refine x_callV C X (k := 1) xv_X3_201 (rfl : xk 1 = 3) rfl rfl (by decide) (kX3_readProduct O C.2.2.2.2.1 N hd0 KE k1 x2 (hk_k1 : xk k1 = 4) q1.2 q2 hq2) (by simp only [rmd]; omega) (by simp only [rmd]; omega) (Nat.zero_le _) (Nat.zero_le _) rfl hl.1 rfl (Nat.le_of_ble_eq_true rfl) dX3_readSum_79 (fun H locs X => ?_)
  refine lv_aload_n C.1.1 C.1.2.1 dX3_readSum_82 rfl (lv_at hl 2 rfl) ?_
  refine lv_iload C.1.1 C.1.2.1 dX3_readSum_83 (lv_at hl 0 rfl) ?_
  obtain ⟨q3, hq3, hF⟩ := bnd_some hF
  refine x_callV C X (k := k1) xv_X3_185 hk_k1 rfl rfl (by decide) (kX4_add O.1 C.2.2.2.2.1 N k1 t0 (hk_k1 : xk k1 = 4) q2.2 q3 hq3) (by simp only [rmd]; omega) (by simp only [rmd]; omega) (Nat.zero_le _) (Nat.zero_le _) rfl hl.1 rfl (Nat.le_of_ble_eq_true rfl) dX3_readSum_85 (fun H locs X => ?_)
  refine lv_iinc (v := (x3 + 1 : Int32)) (lv' := [(3, .int ((x3 + 1 : Int32))), (4, .int t0), (0, .ref (g 1)), (1, .ref (g k1)), (2, .int x2)]) C.1.1 C.1.2.1 dX3_readSum_88 hl (k := 4) rfl rfl (by decide) rfl (fun ls hl => ?_)
  refine lv_goto (tgt := 8) C.1.1 C.1.2.1 dX3_readSum_91 (by decide) ?_
  exact K8 _ _ _ (hk_k1 : xk k1 = 4) _ _ _ _ X (lv_sub hl [2, 3, 4, 0] rfl) hF
noncomputable def fX3_readSum_b64 (N : Nat) (rE : Nat → Int32 → gS → Option (Int32 × gS)) (r8 : Nat → Int32 → Int32 → gS → Option (Int32 × gS)) (k1 : Nat) (x2 : Int32) (x3 : Int32) (S : gS) : Option (Int32 × gS) := fX3_readSum_b67 N rE r8 k1 x2 x3 10016 S
theorem bX3_readSum_64 {N : Nat} {rE : Nat → Int32 → gS → Option (Int32 × gS)} {d0 : Nat} {r8 : Nat → Int32 → Int32 → gS → Option (Int32 × gS)} {k1 : Nat} {x2 : Int32} {x3 : Int32} {S : gS} {H : Heap} {locs : List Loc} {ls : Array Slot} {o : Int32 × gS} (C : gC p s m args meth c cX3_readSum 5 RX3 none D (xtys cI cB cZ cQ) xord g Am) (O : xsO g cI cB cZ cQ Am aK aV) (hd0 : 12 ≤ d0) (KE : ∀ (k1 : Nat) (hk_k1 : xk k1 = 4) (x : Int32) (S : gS) (o : Int32 × gS), rE k1 x S = some o → gM l yX3_readExpr cX3_readExpr 4 none d0 D (xtys cI cB cZ cQ) (xcell g cI cB cZ cQ) xord g Am [.ref (g 1), .ref (g k1), .int x] S none o.2) (K8 : ∀ (k1 : Nat) (x2 : Int32) (x3 : Int32) (hk_k1 : xk k1 = 4) (S : gS) (H : Heap) (locs : List Loc) (ls : Array Slot), gX D (xcell g cI cB cZ cQ) xord g S s H locs → lv_has ls 5 [(0, .ref (g 1)), (1, .ref (g k1)), (2, .int x2), (3, .int x3)] → r8 k1 x2 x3 S = some o → W p l e (rmd (d0 + 3)) s m args below meth c H locs 0 0 (gE below args s D (xtys cI cB cZ cQ) (xcell g cI cB cZ cQ) xord g none o.2) (F0 m 8 ls [])) (hk_k1 : xk k1 = 4) (X : gX D (xcell g cI cB cZ cQ) xord g S s H locs) (hl : lv_has ls 5 [(0, .ref (g 1)), (1, .ref (g k1)), (2, .int x2), (3, .int x3)]) (hF : fX3_readSum_b64 N rE r8 k1 x2 x3 S = some o) : W p l e (rmd (d0 + 3)) s m args below meth c H locs 0 0 (gE below args s D (xtys cI cB cZ cQ) (xcell g cI cB cZ cQ) xord g none o.2) (F0 m 64 ls []) := by
  unfold fX3_readSum_b64 at hF
  refine lv_sipush (v := 10016) C.1.1 C.1.2.1 dX3_readSum_64 (by decide) ?_
  exact bX3_readSum_67 C O hd0 KE K8 (hk_k1 : xk k1 = 4) X (lv_sub hl [0, 1, 2, 3] rfl) hF
noncomputable def fX3_readSum_b58 (N : Nat) (rE : Nat → Int32 → gS → Option (Int32 × gS)) (r8 : Nat → Int32 → Int32 → gS → Option (Int32 × gS)) (k1 : Nat) (x2 : Int32) (x3 : Int32) (S : gS) : Option (Int32 × gS) := fX3_readSum_b67 N rE r8 k1 x2 x3 10015 S
theorem bX3_readSum_58 {N : Nat} {rE : Nat → Int32 → gS → Option (Int32 × gS)} {d0 : Nat} {r8 : Nat → Int32 → Int32 → gS → Option (Int32 × gS)} {k1 : Nat} {x2 : Int32} {x3 : Int32} {S : gS} {H : Heap} {locs : List Loc} {ls : Array Slot} {o : Int32 × gS} (C : gC p s m args meth c cX3_readSum 5 RX3 none D (xtys cI cB cZ cQ) xord g Am) (O : xsO g cI cB cZ cQ Am aK aV) (hd0 : 12 ≤ d0) (KE : ∀ (k1 : Nat) (hk_k1 : xk k1 = 4) (x : Int32) (S : gS) (o : Int32 × gS), rE k1 x S = some o → gM l yX3_readExpr cX3_readExpr 4 none d0 D (xtys cI cB cZ cQ) (xcell g cI cB cZ cQ) xord g Am [.ref (g 1), .ref (g k1), .int x] S none o.2) (K8 : ∀ (k1 : Nat) (x2 : Int32) (x3 : Int32) (hk_k1 : xk k1 = 4) (S : gS) (H : Heap) (locs : List Loc) (ls : Array Slot), gX D (xcell g cI cB cZ cQ) xord g S s H locs → lv_has ls 5 [(0, .ref (g 1)), (1, .ref (g k1)), (2, .int x2), (3, .int x3)] → r8 k1 x2 x3 S = some o → W p l e (rmd (d0 + 3)) s m args below meth c H locs 0 0 (gE below args s D (xtys cI cB cZ cQ) (xcell g cI cB cZ cQ) xord g none o.2) (F0 m 8 ls [])) (hk_k1 : xk k1 = 4) (X : gX D (xcell g cI cB cZ cQ) xord g S s H locs) (hl : lv_has ls 5 [(0, .ref (g 1)), (1, .ref (g k1)), (2, .int x2), (3, .int x3)]) (hF : fX3_readSum_b58 N rE r8 k1 x2 x3 S = some o) : W p l e (rmd (d0 + 3)) s m args below meth c H locs 0 0 (gE below args s D (xtys cI cB cZ cQ) (xcell g cI cB cZ cQ) xord g none o.2) (F0 m 58 ls []) := by
  unfold fX3_readSum_b58 at hF
  refine lv_sipush (v := 10015) C.1.1 C.1.2.1 dX3_readSum_58 (by decide) ?_
  refine lv_goto (tgt := 67) C.1.1 C.1.2.1 dX3_readSum_61 (by decide) ?_
  exact bX3_readSum_67 C O hd0 KE K8 (hk_k1 : xk k1 = 4) X (lv_sub hl [0, 1, 2, 3] rfl) hF
noncomputable def fX3_readSum_b46 (N : Nat) (rE : Nat → Int32 → gS → Option (Int32 × gS)) (r8 : Nat → Int32 → Int32 → gS → Option (Int32 × gS)) (k1 : Nat) (x2 : Int32) (x3 : Int32) (S : gS) : Option (Int32 × gS) := bnd (fX8_isAtSign N 43 S) fun q1 => (if q1.1 = 0 then fX3_readSum_b64 N rE r8 k1 x2 x3 q1.2 else fX3_readSum_b58 N rE r8 k1 x2 x3 q1.2)
theorem bX3_readSum_46 {N : Nat} {rE : Nat → Int32 → gS → Option (Int32 × gS)} {d0 : Nat} {r8 : Nat → Int32 → Int32 → gS → Option (Int32 × gS)} {k1 : Nat} {x2 : Int32} {x3 : Int32} {S : gS} {H : Heap} {locs : List Loc} {ls : Array Slot} {o : Int32 × gS} (C : gC p s m args meth c cX3_readSum 5 RX3 none D (xtys cI cB cZ cQ) xord g Am) (O : xsO g cI cB cZ cQ Am aK aV) (hd0 : 12 ≤ d0) (KE : ∀ (k1 : Nat) (hk_k1 : xk k1 = 4) (x : Int32) (S : gS) (o : Int32 × gS), rE k1 x S = some o → gM l yX3_readExpr cX3_readExpr 4 none d0 D (xtys cI cB cZ cQ) (xcell g cI cB cZ cQ) xord g Am [.ref (g 1), .ref (g k1), .int x] S none o.2) (K8 : ∀ (k1 : Nat) (x2 : Int32) (x3 : Int32) (hk_k1 : xk k1 = 4) (S : gS) (H : Heap) (locs : List Loc) (ls : Array Slot), gX D (xcell g cI cB cZ cQ) xord g S s H locs → lv_has ls 5 [(0, .ref (g 1)), (1, .ref (g k1)), (2, .int x2), (3, .int x3)] → r8 k1 x2 x3 S = some o → W p l e (rmd (d0 + 3)) s m args below meth c H locs 0 0 (gE below args s D (xtys cI cB cZ cQ) (xcell g cI cB cZ cQ) xord g none o.2) (F0 m 8 ls [])) (hk_k1 : xk k1 = 4) (X : gX D (xcell g cI cB cZ cQ) xord g S s H locs) (hl : lv_has ls 5 [(0, .ref (g 1)), (1, .ref (g k1)), (2, .int x2), (3, .int x3)]) (hF : fX3_readSum_b46 N rE r8 k1 x2 x3 S = some o) : W p l e (rmd (d0 + 3)) s m args below meth c H locs 0 0 (gE below args s D (xtys cI cB cZ cQ) (xcell g cI cB cZ cQ) xord g none o.2) (F0 m 46 ls []) := by
  unfold fX3_readSum_b46 at hF
  refine lv_aload_n C.1.1 C.1.2.1 dX3_readSum_46 rfl (lv_at hl 0 rfl) ?_
  refine xg_X3_12 C O.1 X (k := 1) rfl (j := 2) rfl dX3_readSum_47 ?_
  refine lv_bipush (v := 43) C.1.1 C.1.2.1 dX3_readSum_50 (by decide) ?_
  obtain ⟨q1, hq1, hF⟩ := bnd_some hF
  refine x_callVi C X (k := 2) xv_X3_56 (rfl : xk 2 = 8) rfl rfl (by decide) (kX8_isAtSign O.1 C.2.2.2.2.1 N 43 S q1 hq1) (by simp only [rmd]; omega) (by simp only [rmd]; omega) (Nat.zero_le _) (Nat.zero_le _) rfl hl.1 rfl (Nat.le_of_ble_eq_true rfl) dX3_readSum_52 (fun H locs X => ?_)
  refine lv_if_eq (tgt := 64) C.1.1 C.1.2.1 dX3_readSum_55 (by decide) (fun h_z => ?_) (fun h_z => ?_)
  · rw [if_pos h_z] at hF
    exact bX3_readSum_64 C O hd0 KE K8 (hk_k1 : xk k1 = 4) X (lv_sub hl [0, 1, 2, 3] rfl) hF
  · rw [if_neg h_z] at hF
    exact bX3_readSum_58 C O hd0 KE K8 (hk_k1 : xk k1 = 4) X (lv_sub hl [0, 1, 2, 3] rfl) hF
noncomputable def fX3_readSum_b34 (N : Nat) (rE : Nat → Int32 → gS → Option (Int32 × gS)) (r8 : Nat → Int32 → Int32 → gS → Option (Int32 × gS)) (k1 : Nat) (x2 : Int32) (x3 : Int32) (S : gS) : Option (Int32 × gS) := bnd (fX8_isAtSign N 45 S) fun q1 => (if q1.1 = 0 then fX3_readSum_b94 N rE q1.2 else fX3_readSum_b46 N rE r8 k1 x2 x3 q1.2)
theorem bX3_readSum_34 {N : Nat} {rE : Nat → Int32 → gS → Option (Int32 × gS)} {d0 : Nat} {r8 : Nat → Int32 → Int32 → gS → Option (Int32 × gS)} {k1 : Nat} {x2 : Int32} {x3 : Int32} {S : gS} {H : Heap} {locs : List Loc} {ls : Array Slot} {o : Int32 × gS} (C : gC p s m args meth c cX3_readSum 5 RX3 none D (xtys cI cB cZ cQ) xord g Am) (O : xsO g cI cB cZ cQ Am aK aV) (hd0 : 12 ≤ d0) (KE : ∀ (k1 : Nat) (hk_k1 : xk k1 = 4) (x : Int32) (S : gS) (o : Int32 × gS), rE k1 x S = some o → gM l yX3_readExpr cX3_readExpr 4 none d0 D (xtys cI cB cZ cQ) (xcell g cI cB cZ cQ) xord g Am [.ref (g 1), .ref (g k1), .int x] S none o.2) (K8 : ∀ (k1 : Nat) (x2 : Int32) (x3 : Int32) (hk_k1 : xk k1 = 4) (S : gS) (H : Heap) (locs : List Loc) (ls : Array Slot), gX D (xcell g cI cB cZ cQ) xord g S s H locs → lv_has ls 5 [(0, .ref (g 1)), (1, .ref (g k1)), (2, .int x2), (3, .int x3)] → r8 k1 x2 x3 S = some o → W p l e (rmd (d0 + 3)) s m args below meth c H locs 0 0 (gE below args s D (xtys cI cB cZ cQ) (xcell g cI cB cZ cQ) xord g none o.2) (F0 m 8 ls [])) (hk_k1 : xk k1 = 4) (X : gX D (xcell g cI cB cZ cQ) xord g S s H locs) (hl : lv_has ls 5 [(0, .ref (g 1)), (1, .ref (g k1)), (2, .int x2), (3, .int x3)]) (hF : fX3_readSum_b34 N rE r8 k1 x2 x3 S = some o) : W p l e (rmd (d0 + 3)) s m args below meth c H locs 0 0 (gE below args s D (xtys cI cB cZ cQ) (xcell g cI cB cZ cQ) xord g none o.2) (F0 m 34 ls []) := by
  unfold fX3_readSum_b34 at hF
  refine lv_aload_n C.1.1 C.1.2.1 dX3_readSum_34 rfl (lv_at hl 0 rfl) ?_
  refine xg_X3_12 C O.1 X (k := 1) rfl (j := 2) rfl dX3_readSum_35 ?_
  refine lv_bipush (v := 45) C.1.1 C.1.2.1 dX3_readSum_38 (by decide) ?_
  obtain ⟨q1, hq1, hF⟩ := bnd_some hF
  refine x_callVi C X (k := 2) xv_X3_56 (rfl : xk 2 = 8) rfl rfl (by decide) (kX8_isAtSign O.1 C.2.2.2.2.1 N 45 S q1 hq1) (by simp only [rmd]; omega) (by simp only [rmd]; omega) (Nat.zero_le _) (Nat.zero_le _) rfl hl.1 rfl (Nat.le_of_ble_eq_true rfl) dX3_readSum_40 (fun H locs X => ?_)
  refine lv_if_eq (tgt := 94) C.1.1 C.1.2.1 dX3_readSum_43 (by decide) (fun h_z => ?_) (fun h_z => ?_)
  · rw [if_pos h_z] at hF
    exact bX3_readSum_94 C O hd0 KE X (lv_sub hl [] rfl) hF
  · rw [if_neg h_z] at hF
    exact bX3_readSum_46 C O hd0 KE K8 (hk_k1 : xk k1 = 4) X (lv_sub hl [0, 1, 2, 3] rfl) hF
noncomputable def fX3_readSum_b22 (N : Nat) (rE : Nat → Int32 → gS → Option (Int32 × gS)) (r8 : Nat → Int32 → Int32 → gS → Option (Int32 × gS)) (k1 : Nat) (x2 : Int32) (x3 : Int32) (S : gS) : Option (Int32 × gS) := bnd (fX8_isAtSign N 43 S) fun q1 => (if q1.1 = 0 then fX3_readSum_b34 N rE r8 k1 x2 x3 q1.2 else fX3_readSum_b46 N rE r8 k1 x2 x3 q1.2)
theorem bX3_readSum_22 {N : Nat} {rE : Nat → Int32 → gS → Option (Int32 × gS)} {d0 : Nat} {r8 : Nat → Int32 → Int32 → gS → Option (Int32 × gS)} {k1 : Nat} {x2 : Int32} {x3 : Int32} {S : gS} {H : Heap} {locs : List Loc} {ls : Array Slot} {o : Int32 × gS} (C : gC p s m args meth c cX3_readSum 5 RX3 none D (xtys cI cB cZ cQ) xord g Am) (O : xsO g cI cB cZ cQ Am aK aV) (hd0 : 12 ≤ d0) (KE : ∀ (k1 : Nat) (hk_k1 : xk k1 = 4) (x : Int32) (S : gS) (o : Int32 × gS), rE k1 x S = some o → gM l yX3_readExpr cX3_readExpr 4 none d0 D (xtys cI cB cZ cQ) (xcell g cI cB cZ cQ) xord g Am [.ref (g 1), .ref (g k1), .int x] S none o.2) (K8 : ∀ (k1 : Nat) (x2 : Int32) (x3 : Int32) (hk_k1 : xk k1 = 4) (S : gS) (H : Heap) (locs : List Loc) (ls : Array Slot), gX D (xcell g cI cB cZ cQ) xord g S s H locs → lv_has ls 5 [(0, .ref (g 1)), (1, .ref (g k1)), (2, .int x2), (3, .int x3)] → r8 k1 x2 x3 S = some o → W p l e (rmd (d0 + 3)) s m args below meth c H locs 0 0 (gE below args s D (xtys cI cB cZ cQ) (xcell g cI cB cZ cQ) xord g none o.2) (F0 m 8 ls [])) (hk_k1 : xk k1 = 4) (X : gX D (xcell g cI cB cZ cQ) xord g S s H locs) (hl : lv_has ls 5 [(0, .ref (g 1)), (1, .ref (g k1)), (2, .int x2), (3, .int x3)]) (hF : fX3_readSum_b22 N rE r8 k1 x2 x3 S = some o) : W p l e (rmd (d0 + 3)) s m args below meth c H locs 0 0 (gE below args s D (xtys cI cB cZ cQ) (xcell g cI cB cZ cQ) xord g none o.2) (F0 m 22 ls []) := by
  unfold fX3_readSum_b22 at hF
  refine lv_aload_n C.1.1 C.1.2.1 dX3_readSum_22 rfl (lv_at hl 0 rfl) ?_
  refine xg_X3_12 C O.1 X (k := 1) rfl (j := 2) rfl dX3_readSum_23 ?_
  refine lv_bipush (v := 43) C.1.1 C.1.2.1 dX3_readSum_26 (by decide) ?_
  obtain ⟨q1, hq1, hF⟩ := bnd_some hF
  refine x_callVi C X (k := 2) xv_X3_56 (rfl : xk 2 = 8) rfl rfl (by decide) (kX8_isAtSign O.1 C.2.2.2.2.1 N 43 S q1 hq1) (by simp only [rmd]; omega) (by simp only [rmd]; omega) (Nat.zero_le _) (Nat.zero_le _) rfl hl.1 rfl (Nat.le_of_ble_eq_true rfl) dX3_readSum_28 (fun H locs X => ?_)
  refine lv_if_ne (tgt := 46) C.1.1 C.1.2.1 dX3_readSum_31 (by decide) (fun h_z => ?_) (fun h_z => ?_)
  · rw [if_neg h_z] at hF
    exact bX3_readSum_46 C O hd0 KE K8 (hk_k1 : xk k1 = 4) X (lv_sub hl [0, 1, 2, 3] rfl) hF
  · rw [if_pos h_z] at hF
    exact bX3_readSum_34 C O hd0 KE K8 (hk_k1 : xk k1 = 4) X (lv_sub hl [0, 1, 2, 3] rfl) hF
noncomputable def fX3_readSum_b15 (N : Nat) (rE : Nat → Int32 → gS → Option (Int32 × gS)) (r8 : Nat → Int32 → Int32 → gS → Option (Int32 × gS)) (k1 : Nat) (x2 : Int32) (x3 : Int32) (S : gS) : Option (Int32 × gS) := bnd (fX3_isFine N S) fun q1 => (if q1.1 = 0 then fX3_readSum_b94 N rE q1.2 else fX3_readSum_b22 N rE r8 k1 x2 x3 q1.2)
theorem bX3_readSum_15 {N : Nat} {rE : Nat → Int32 → gS → Option (Int32 × gS)} {d0 : Nat} {r8 : Nat → Int32 → Int32 → gS → Option (Int32 × gS)} {k1 : Nat} {x2 : Int32} {x3 : Int32} {S : gS} {H : Heap} {locs : List Loc} {ls : Array Slot} {o : Int32 × gS} (C : gC p s m args meth c cX3_readSum 5 RX3 none D (xtys cI cB cZ cQ) xord g Am) (O : xsO g cI cB cZ cQ Am aK aV) (hd0 : 12 ≤ d0) (KE : ∀ (k1 : Nat) (hk_k1 : xk k1 = 4) (x : Int32) (S : gS) (o : Int32 × gS), rE k1 x S = some o → gM l yX3_readExpr cX3_readExpr 4 none d0 D (xtys cI cB cZ cQ) (xcell g cI cB cZ cQ) xord g Am [.ref (g 1), .ref (g k1), .int x] S none o.2) (K8 : ∀ (k1 : Nat) (x2 : Int32) (x3 : Int32) (hk_k1 : xk k1 = 4) (S : gS) (H : Heap) (locs : List Loc) (ls : Array Slot), gX D (xcell g cI cB cZ cQ) xord g S s H locs → lv_has ls 5 [(0, .ref (g 1)), (1, .ref (g k1)), (2, .int x2), (3, .int x3)] → r8 k1 x2 x3 S = some o → W p l e (rmd (d0 + 3)) s m args below meth c H locs 0 0 (gE below args s D (xtys cI cB cZ cQ) (xcell g cI cB cZ cQ) xord g none o.2) (F0 m 8 ls [])) (hk_k1 : xk k1 = 4) (X : gX D (xcell g cI cB cZ cQ) xord g S s H locs) (hl : lv_has ls 5 [(0, .ref (g 1)), (1, .ref (g k1)), (2, .int x2), (3, .int x3)]) (hF : fX3_readSum_b15 N rE r8 k1 x2 x3 S = some o) : W p l e (rmd (d0 + 3)) s m args below meth c H locs 0 0 (gE below args s D (xtys cI cB cZ cQ) (xcell g cI cB cZ cQ) xord g none o.2) (F0 m 15 ls []) := by
  unfold fX3_readSum_b15 at hF
  refine lv_aload_n C.1.1 C.1.2.1 dX3_readSum_15 rfl (lv_at hl 0 rfl) ?_
  obtain ⟨q1, hq1, hF⟩ := bnd_some hF
  refine x_callVi C X (k := 1) xv_X3_39 (rfl : xk 1 = 3) rfl rfl (by decide) (kX3_isFine O.1 C.2.2.2.2.1 N S q1 hq1) (by simp only [rmd]; omega) (by simp only [rmd]; omega) (Nat.zero_le _) (Nat.zero_le _) rfl hl.1 rfl (Nat.le_of_ble_eq_true rfl) dX3_readSum_16 (fun H locs X => ?_)
  refine lv_if_eq (tgt := 94) C.1.1 C.1.2.1 dX3_readSum_19 (by decide) (fun h_z => ?_) (fun h_z => ?_)
  · rw [if_pos h_z] at hF
    exact bX3_readSum_94 C O hd0 KE X (lv_sub hl [] rfl) hF
  · rw [if_neg h_z] at hF
    exact bX3_readSum_22 C O hd0 KE K8 (hk_k1 : xk k1 = 4) X (lv_sub hl [0, 1, 2, 3] rfl) hF
noncomputable def fX3_readSum_b8 (N : Nat) (rE : Nat → Int32 → gS → Option (Int32 × gS)) (r8 : Nat → Int32 → Int32 → gS → Option (Int32 × gS)) (k1 : Nat) (x2 : Int32) (x3 : Int32) (S : gS) : Option (Int32 × gS) := if 700 ≤ x3 then fX3_readSum_b94 N rE S else fX3_readSum_b15 N rE r8 k1 x2 x3 S
theorem bX3_readSum_8 {N : Nat} {rE : Nat → Int32 → gS → Option (Int32 × gS)} {d0 : Nat} {r8 : Nat → Int32 → Int32 → gS → Option (Int32 × gS)} {k1 : Nat} {x2 : Int32} {x3 : Int32} {S : gS} {H : Heap} {locs : List Loc} {ls : Array Slot} {o : Int32 × gS} (C : gC p s m args meth c cX3_readSum 5 RX3 none D (xtys cI cB cZ cQ) xord g Am) (O : xsO g cI cB cZ cQ Am aK aV) (hd0 : 12 ≤ d0) (KE : ∀ (k1 : Nat) (hk_k1 : xk k1 = 4) (x : Int32) (S : gS) (o : Int32 × gS), rE k1 x S = some o → gM l yX3_readExpr cX3_readExpr 4 none d0 D (xtys cI cB cZ cQ) (xcell g cI cB cZ cQ) xord g Am [.ref (g 1), .ref (g k1), .int x] S none o.2) (K8 : ∀ (k1 : Nat) (x2 : Int32) (x3 : Int32) (hk_k1 : xk k1 = 4) (S : gS) (H : Heap) (locs : List Loc) (ls : Array Slot), gX D (xcell g cI cB cZ cQ) xord g S s H locs → lv_has ls 5 [(0, .ref (g 1)), (1, .ref (g k1)), (2, .int x2), (3, .int x3)] → r8 k1 x2 x3 S = some o → W p l e (rmd (d0 + 3)) s m args below meth c H locs 0 0 (gE below args s D (xtys cI cB cZ cQ) (xcell g cI cB cZ cQ) xord g none o.2) (F0 m 8 ls [])) (hk_k1 : xk k1 = 4) (X : gX D (xcell g cI cB cZ cQ) xord g S s H locs) (hl : lv_has ls 5 [(0, .ref (g 1)), (1, .ref (g k1)), (2, .int x2), (3, .int x3)]) (hF : fX3_readSum_b8 N rE r8 k1 x2 x3 S = some o) : W p l e (rmd (d0 + 3)) s m args below meth c H locs 0 0 (gE below args s D (xtys cI cB cZ cQ) (xcell g cI cB cZ cQ) xord g none o.2) (F0 m 8 ls []) := by
  unfold fX3_readSum_b8 at hF
  refine lv_iload_n C.1.1 C.1.2.1 dX3_readSum_8 rfl (lv_at hl 3 rfl) ?_
  refine lv_sipush (v := 700) C.1.1 C.1.2.1 dX3_readSum_9 (by decide) ?_
  refine lv_icmp_ge (tgt := 94) C.1.1 C.1.2.1 dX3_readSum_12 (by decide) (fun h_z => ?_) (fun h_z => ?_)
  · rw [if_pos h_z] at hF
    exact bX3_readSum_94 C O hd0 KE X (lv_sub hl [] rfl) hF
  · rw [if_neg h_z] at hF
    exact bX3_readSum_15 C O hd0 KE K8 (hk_k1 : xk k1 = 4) X (lv_sub hl [0, 1, 2, 3] rfl) hF
noncomputable def fX3_readSum_h8 (N : Nat) (rE : Nat → Int32 → gS → Option (Int32 × gS)) : Nat → Nat → Int32 → Int32 → gS → Option (Int32 × gS)
  | 0, _, _, _, _ => none
  | n + 1, k1, x2, x3, S => fX3_readSum_b8 N rE (fX3_readSum_h8 N rE n) k1 x2 x3 S
theorem hX3_readSum_8 {N : Nat} {rE : Nat → Int32 → gS → Option (Int32 × gS)} {d0 : Nat} {o : Int32 × gS} (C : gC p s m args meth c cX3_readSum 5 RX3 none D (xtys cI cB cZ cQ) xord g Am) (O : xsO g cI cB cZ cQ Am aK aV) (hd0 : 12 ≤ d0) (KE : ∀ (k1 : Nat) (hk_k1 : xk k1 = 4) (x : Int32) (S : gS) (o : Int32 × gS), rE k1 x S = some o → gM l yX3_readExpr cX3_readExpr 4 none d0 D (xtys cI cB cZ cQ) (xcell g cI cB cZ cQ) xord g Am [.ref (g 1), .ref (g k1), .int x] S none o.2) : ∀ (n : Nat) (k1 : Nat) (x2 : Int32) (x3 : Int32) (hk_k1 : xk k1 = 4) (S : gS) (H : Heap) (locs : List Loc) (ls : Array Slot), gX D (xcell g cI cB cZ cQ) xord g S s H locs → lv_has ls 5 [(0, .ref (g 1)), (1, .ref (g k1)), (2, .int x2), (3, .int x3)] → fX3_readSum_h8 N rE n k1 x2 x3 S = some o → W p l e (rmd (d0 + 3)) s m args below meth c H locs 0 0 (gE below args s D (xtys cI cB cZ cQ) (xcell g cI cB cZ cQ) xord g none o.2) (F0 m 8 ls []) := by
  intro n
  induction n with
  | zero =>
    intro k1 x2 x3 hk_k1 S H locs ls X hl hF
    exact absurd (show (none : Option (Int32 × gS)) = some o from hF) (by simp)
  | succ n ih =>
    intro k1 x2 x3 hk_k1 S H locs ls X hl hF
    have hF : fX3_readSum_b8 N rE (fX3_readSum_h8 N rE n) k1 x2 x3 S = some o := hF
    exact bX3_readSum_8 C O hd0 KE ih hk_k1 X hl hF
noncomputable def fX3_readSum_b0 (N : Nat) (rE : Nat → Int32 → gS → Option (Int32 × gS)) (k1 : Nat) (x2 : Int32) (S : gS) : Option (Int32 × gS) := bnd (fX3_readProduct N rE k1 x2 S) fun q1 => (fX3_readSum_h8 N rE N k1 x2 0 q1.2)
theorem bX3_readSum_0 {N : Nat} {rE : Nat → Int32 → gS → Option (Int32 × gS)} {d0 : Nat} {k1 : Nat} {x2 : Int32} {S : gS} {H : Heap} {locs : List Loc} {ls : Array Slot} {o : Int32 × gS} (C : gC p s m args meth c cX3_readSum 5 RX3 none D (xtys cI cB cZ cQ) xord g Am) (O : xsO g cI cB cZ cQ Am aK aV) (hd0 : 12 ≤ d0) (KE : ∀ (k1 : Nat) (hk_k1 : xk k1 = 4) (x : Int32) (S : gS) (o : Int32 × gS), rE k1 x S = some o → gM l yX3_readExpr cX3_readExpr 4 none d0 D (xtys cI cB cZ cQ) (xcell g cI cB cZ cQ) xord g Am [.ref (g 1), .ref (g k1), .int x] S none o.2) (hk_k1 : xk k1 = 4) (X : gX D (xcell g cI cB cZ cQ) xord g S s H locs) (hl : lv_has ls 5 [(0, .ref (g 1)), (1, .ref (g k1)), (2, .int x2)]) (hF : fX3_readSum_b0 N rE k1 x2 S = some o) : W p l e (rmd (d0 + 3)) s m args below meth c H locs 0 0 (gE below args s D (xtys cI cB cZ cQ) (xcell g cI cB cZ cQ) xord g none o.2) (F0 m 0 ls []) := by
  unfold fX3_readSum_b0 at hF
  refine lv_aload_n C.1.1 C.1.2.1 dX3_readSum_0 rfl (lv_at hl 0 rfl) ?_
  refine lv_aload_n C.1.1 C.1.2.1 dX3_readSum_1 rfl (lv_at hl 1 rfl) ?_
  refine lv_iload_n C.1.1 C.1.2.1 dX3_readSum_2 rfl (lv_at hl 2 rfl) ?_
  obtain ⟨q1, hq1, hF⟩ := bnd_some hF
  refine x_callV C X (k := 1) xv_X3_201 (rfl : xk 1 = 3) rfl rfl (by decide) (kX3_readProduct O C.2.2.2.2.1 N hd0 KE k1 x2 (hk_k1 : xk k1 = 4) S q1 hq1) (by simp only [rmd]; omega) (by simp only [rmd]; omega) (Nat.zero_le _) (Nat.zero_le _) rfl hl.1 rfl (Nat.le_of_ble_eq_true rfl) dX3_readSum_3 (fun H locs X => ?_)
  refine lv_iconst (v := 0) C.1.1 C.1.2.1 dX3_readSum_6 (by decide) ?_
  refine lv_istore_n (lv' := [(3, .int 0), (0, .ref (g 1)), (1, .ref (g k1)), (2, .int x2)]) C.1.1 C.1.2.1 dX3_readSum_7 rfl hl (by decide) rfl (fun ls hl => ?_)
  exact hX3_readSum_8 C O hd0 KE N _ _ _ (hk_k1 : xk k1 = 4) _ _ _ _ X (lv_sub hl [1, 2, 3, 0] rfl) hF
noncomputable def fX3_readSum (N : Nat) (rE : Nat → Int32 → gS → Option (Int32 × gS)) (k1 : Nat) (x2 : Int32) (S : gS) : Option (Int32 × gS) := fX3_readSum_b0 N rE k1 x2 S
theorem kX3_readSum {l : Launch} {D : va_G} {g : Nat → Nat} {cI cB cZ cQ : ClassId} {Am : (Nat → Prop) → State → Heap → Prop} {aK aV : Nat → Nat} (O : xsO g cI cB cZ cQ Am aK aV) (P : gAm Am) (N : Nat) {rE : Nat → Int32 → gS → Option (Int32 × gS)} {d0 : Nat} (hd0 : 12 ≤ d0) (KE : ∀ (k1 : Nat) (hk_k1 : xk k1 = 4) (x : Int32) (S : gS) (o : Int32 × gS), rE k1 x S = some o → gM l yX3_readExpr cX3_readExpr 4 none d0 D (xtys cI cB cZ cQ) (xcell g cI cB cZ cQ) xord g Am [.ref (g 1), .ref (g k1), .int x] S none o.2) (k1 : Nat) (x2 : Int32) (hk_k1 : xk k1 = 4) (S : gS) (o : Int32 × gS) (hF : fX3_readSum N rE k1 x2 S = some o) : gM l yX3_readSum cX3_readSum 5 none (d0 + 3) D (xtys cI cB cZ cQ) (xcell g cI cB cZ cQ) xord g Am [.ref (g 1), .ref (g k1), .int x2] S none o.2 :=
  gM_of O.1.1 P (by decide) (Nat.le_of_ble_eq_true rfl) (fun p e s m args below meth c ls C X hl => bX3_readSum_0 C O hd0 KE hk_k1 X (lv_sub hl [0, 1, 2] rfl) hF)
-- X3.readTest
noncomputable def fX3_readTest_b69 (N : Nat) (rE : Nat → Int32 → gS → Option (Int32 × gS)) (S : gS) : Option (Int32 × gS) := some (0, S)
theorem bX3_readTest_69 {N : Nat} {rE : Nat → Int32 → gS → Option (Int32 × gS)} {d0 : Nat} {S : gS} {H : Heap} {locs : List Loc} {ls : Array Slot} {o : Int32 × gS} (C : gC p s m args meth c cX3_readTest 4 RX3 none D (xtys cI cB cZ cQ) xord g Am) (O : xsO g cI cB cZ cQ Am aK aV) (hd0 : 12 ≤ d0) (KE : ∀ (k1 : Nat) (hk_k1 : xk k1 = 4) (x : Int32) (S : gS) (o : Int32 × gS), rE k1 x S = some o → gM l yX3_readExpr cX3_readExpr 4 none d0 D (xtys cI cB cZ cQ) (xcell g cI cB cZ cQ) xord g Am [.ref (g 1), .ref (g k1), .int x] S none o.2) (X : gX D (xcell g cI cB cZ cQ) xord g S s H locs) (hl : lv_has ls 4 []) (hF : fX3_readTest_b69 N rE S = some o) : W p l e (rmd (d0 + 4)) s m args below meth c H locs 0 0 (gE below args s D (xtys cI cB cZ cQ) (xcell g cI cB cZ cQ) xord g none o.2) (F0 m 69 ls []) := by
  unfold fX3_readTest_b69 at hF
  cases hF
  exact g_vret C X dX3_readTest_69
noncomputable def fX3_readTest_b66 (N : Nat) (rE : Nat → Int32 → gS → Option (Int32 × gS)) (u0 : Nat) (t1 : Int32) (S : gS) : Option (Int32 × gS) := bnd (fX4_add N u0 t1 S) fun q1 => (fX3_readTest_b69 N rE q1.2)
theorem bX3_readTest_66 {N : Nat} {rE : Nat → Int32 → gS → Option (Int32 × gS)} {d0 : Nat} {u0 : Nat} {t1 : Int32} {S : gS} {H : Heap} {locs : List Loc} {ls : Array Slot} {o : Int32 × gS} (C : gC p s m args meth c cX3_readTest 4 RX3 none D (xtys cI cB cZ cQ) xord g Am) (O : xsO g cI cB cZ cQ Am aK aV) (hd0 : 12 ≤ d0) (KE : ∀ (k1 : Nat) (hk_k1 : xk k1 = 4) (x : Int32) (S : gS) (o : Int32 × gS), rE k1 x S = some o → gM l yX3_readExpr cX3_readExpr 4 none d0 D (xtys cI cB cZ cQ) (xcell g cI cB cZ cQ) xord g Am [.ref (g 1), .ref (g k1), .int x] S none o.2) (hk_u0 : xk u0 = 4) (X : gX D (xcell g cI cB cZ cQ) xord g S s H locs) (hl : lv_has ls 4 []) (hF : fX3_readTest_b66 N rE u0 t1 S = some o) : W p l e (rmd (d0 + 4)) s m args below meth c H locs 0 0 (gE below args s D (xtys cI cB cZ cQ) (xcell g cI cB cZ cQ) xord g none o.2) (F0 m 66 ls [.int t1, .ref (g u0)]) := by
  unfold fX3_readTest_b66 at hF
  obtain ⟨q1, hq1, hF⟩ := bnd_some hF
  refine x_callV C X (k := u0) xv_X3_185 hk_u0 rfl rfl (by decide) (kX4_add O.1 C.2.2.2.2.1 N u0 t1 (hk_u0 : xk u0 = 4) S q1 hq1) (by simp only [rmd]; omega) (by simp only [rmd]; omega) (Nat.zero_le _) (Nat.zero_le _) rfl hl.1 rfl (Nat.le_of_ble_eq_true rfl) dX3_readTest_66 (fun H locs X => ?_)
  exact bX3_readTest_69 C O hd0 KE X (lv_sub hl [] rfl) hF
noncomputable def fX3_readTest_b63 (N : Nat) (rE : Nat → Int32 → gS → Option (Int32 × gS)) (u0 : Nat) (S : gS) : Option (Int32 × gS) := fX3_readTest_b66 N rE u0 10014 S
theorem bX3_readTest_63 {N : Nat} {rE : Nat → Int32 → gS → Option (Int32 × gS)} {d0 : Nat} {u0 : Nat} {S : gS} {H : Heap} {locs : List Loc} {ls : Array Slot} {o : Int32 × gS} (C : gC p s m args meth c cX3_readTest 4 RX3 none D (xtys cI cB cZ cQ) xord g Am) (O : xsO g cI cB cZ cQ Am aK aV) (hd0 : 12 ≤ d0) (KE : ∀ (k1 : Nat) (hk_k1 : xk k1 = 4) (x : Int32) (S : gS) (o : Int32 × gS), rE k1 x S = some o → gM l yX3_readExpr cX3_readExpr 4 none d0 D (xtys cI cB cZ cQ) (xcell g cI cB cZ cQ) xord g Am [.ref (g 1), .ref (g k1), .int x] S none o.2) (hk_u0 : xk u0 = 4) (X : gX D (xcell g cI cB cZ cQ) xord g S s H locs) (hl : lv_has ls 4 []) (hF : fX3_readTest_b63 N rE u0 S = some o) : W p l e (rmd (d0 + 4)) s m args below meth c H locs 0 0 (gE below args s D (xtys cI cB cZ cQ) (xcell g cI cB cZ cQ) xord g none o.2) (F0 m 63 ls [.ref (g u0)]) := by
  unfold fX3_readTest_b63 at hF
  refine lv_sipush (v := 10014) C.1.1 C.1.2.1 dX3_readTest_63 (by decide) ?_
  exact bX3_readTest_66 C O hd0 KE (hk_u0 : xk u0 = 4) X (lv_sub hl [] rfl) hF
noncomputable def fX3_readTest_b57 (N : Nat) (rE : Nat → Int32 → gS → Option (Int32 × gS)) (u0 : Nat) (S : gS) : Option (Int32 × gS) := fX3_readTest_b66 N rE u0 10013 S
theorem bX3_readTest_57 {N : Nat} {rE : Nat → Int32 → gS → Option (Int32 × gS)} {d0 : Nat} {u0 : Nat} {S : gS} {H : Heap} {locs : List Loc} {ls : Array Slot} {o : Int32 × gS} (C : gC p s m args meth c cX3_readTest 4 RX3 none D (xtys cI cB cZ cQ) xord g Am) (O : xsO g cI cB cZ cQ Am aK aV) (hd0 : 12 ≤ d0) (KE : ∀ (k1 : Nat) (hk_k1 : xk k1 = 4) (x : Int32) (S : gS) (o : Int32 × gS), rE k1 x S = some o → gM l yX3_readExpr cX3_readExpr 4 none d0 D (xtys cI cB cZ cQ) (xcell g cI cB cZ cQ) xord g Am [.ref (g 1), .ref (g k1), .int x] S none o.2) (hk_u0 : xk u0 = 4) (X : gX D (xcell g cI cB cZ cQ) xord g S s H locs) (hl : lv_has ls 4 []) (hF : fX3_readTest_b57 N rE u0 S = some o) : W p l e (rmd (d0 + 4)) s m args below meth c H locs 0 0 (gE below args s D (xtys cI cB cZ cQ) (xcell g cI cB cZ cQ) xord g none o.2) (F0 m 57 ls [.ref (g u0)]) := by
  unfold fX3_readTest_b57 at hF
  refine lv_sipush (v := 10013) C.1.1 C.1.2.1 dX3_readTest_57 (by decide) ?_
  refine lv_goto (tgt := 66) C.1.1 C.1.2.1 dX3_readTest_60 (by decide) ?_
  exact bX3_readTest_66 C O hd0 KE (hk_u0 : xk u0 = 4) X (lv_sub hl [] rfl) hF
noncomputable def fX3_readTest_b39 (N : Nat) (rE : Nat → Int32 → gS → Option (Int32 × gS)) (k1 : Nat) (x2 : Int32) (x3 : Int32) (S : gS) : Option (Int32 × gS) := bnd (fX8_advance N S) fun q1 => (bnd (fX3_readSum N rE k1 x2 q1.2) fun q2 => (if x3 = 0 then fX3_readTest_b63 N rE k1 q2.2 else fX3_readTest_b57 N rE k1 q2.2))
theorem bX3_readTest_39 {N : Nat} {rE : Nat → Int32 → gS → Option (Int32 × gS)} {d0 : Nat} {k1 : Nat} {x2 : Int32} {x3 : Int32} {S : gS} {H : Heap} {locs : List Loc} {ls : Array Slot} {o : Int32 × gS} (C : gC p s m args meth c cX3_readTest 4 RX3 none D (xtys cI cB cZ cQ) xord g Am) (O : xsO g cI cB cZ cQ Am aK aV) (hd0 : 12 ≤ d0) (KE : ∀ (k1 : Nat) (hk_k1 : xk k1 = 4) (x : Int32) (S : gS) (o : Int32 × gS), rE k1 x S = some o → gM l yX3_readExpr cX3_readExpr 4 none d0 D (xtys cI cB cZ cQ) (xcell g cI cB cZ cQ) xord g Am [.ref (g 1), .ref (g k1), .int x] S none o.2) (hk_k1 : xk k1 = 4) (X : gX D (xcell g cI cB cZ cQ) xord g S s H locs) (hl : lv_has ls 4 [(0, .ref (g 1)), (1, .ref (g k1)), (2, .int x2), (3, .int x3)]) (hF : fX3_readTest_b39 N rE k1 x2 x3 S = some o) : W p l e (rmd (d0 + 4)) s m args below meth c H locs 0 0 (gE below args s D (xtys cI cB cZ cQ) (xcell g cI cB cZ cQ) xord g none o.2) (F0 m 39 ls []) := by
  unfold fX3_readTest_b39 at hF
  refine lv_aload_n C.1.1 C.1.2.1 dX3_readTest_39 rfl (lv_at hl 0 rfl) ?_
  refine xg_X3_12 C O.1 X (k := 1) rfl (j := 2) rfl dX3_readTest_40 ?_
  obtain ⟨q1, hq1, hF⟩ := bnd_some hF
  refine x_callV C X (k := 2) xv_X3_63 (rfl : xk 2 = 8) rfl rfl (by decide) (kX8_advance O C.2.2.2.2.1 N S q1 hq1) (by simp only [rmd]; omega) (by simp only [rmd]; omega) (Nat.zero_le _) (Nat.zero_le _) rfl hl.1 rfl (Nat.le_of_ble_eq_true rfl) dX3_readTest_43 (fun H locs X => ?_)
  refine lv_aload_n C.1.1 C.1.2.1 dX3_readTest_46 rfl (lv_at hl 0 rfl) ?_
  refine lv_aload_n C.1.1 C.1.2.1 dX3_readTest_47 rfl (lv_at hl 1 rfl) ?_
  refine lv_iload_n C.1.1 C.1.2.1 dX3_readTest_48 rfl (lv_at hl 2 rfl) ?_
  obtain ⟨q2, hq2, hF⟩ := bnd_some hF
  refine x_callV C X (k := 1) xv_X3_198 (rfl : xk 1 = 3) rfl rfl (by decide) (kX3_readSum O C.2.2.2.2.1 N hd0 KE k1 x2 (hk_k1 : xk k1 = 4) q1.2 q2 hq2) (by simp only [rmd]; omega) (by simp only [rmd]; omega) (Nat.zero_le _) (Nat.zero_le _) rfl hl.1 rfl (Nat.le_of_ble_eq_true rfl) dX3_readTest_49 (fun H locs X => ?_)
  refine lv_aload_n C.1.1 C.1.2.1 dX3_readTest_52 rfl (lv_at hl 1 rfl) ?_
  refine lv_iload_n C.1.1 C.1.2.1 dX3_readTest_53 rfl (lv_at hl 3 rfl) ?_
  refine lv_if_eq (tgt := 63) C.1.1 C.1.2.1 dX3_readTest_54 (by decide) (fun h_z => ?_) (fun h_z => ?_)
  · rw [if_pos h_z] at hF
    exact bX3_readTest_63 C O hd0 KE (hk_k1 : xk k1 = 4) X (lv_sub hl [] rfl) hF
  · rw [if_neg h_z] at hF
    exact bX3_readTest_57 C O hd0 KE (hk_k1 : xk k1 = 4) X (lv_sub hl [] rfl) hF
noncomputable def fX3_readTest_b27 (N : Nat) (rE : Nat → Int32 → gS → Option (Int32 × gS)) (k1 : Nat) (x2 : Int32) (x3 : Int32) (S : gS) : Option (Int32 × gS) := bnd (fX8_isAtSign N 61 S) fun q1 => (if q1.1 = 0 then fX3_readTest_b69 N rE q1.2 else fX3_readTest_b39 N rE k1 x2 x3 q1.2)
theorem bX3_readTest_27 {N : Nat} {rE : Nat → Int32 → gS → Option (Int32 × gS)} {d0 : Nat} {k1 : Nat} {x2 : Int32} {x3 : Int32} {S : gS} {H : Heap} {locs : List Loc} {ls : Array Slot} {o : Int32 × gS} (C : gC p s m args meth c cX3_readTest 4 RX3 none D (xtys cI cB cZ cQ) xord g Am) (O : xsO g cI cB cZ cQ Am aK aV) (hd0 : 12 ≤ d0) (KE : ∀ (k1 : Nat) (hk_k1 : xk k1 = 4) (x : Int32) (S : gS) (o : Int32 × gS), rE k1 x S = some o → gM l yX3_readExpr cX3_readExpr 4 none d0 D (xtys cI cB cZ cQ) (xcell g cI cB cZ cQ) xord g Am [.ref (g 1), .ref (g k1), .int x] S none o.2) (hk_k1 : xk k1 = 4) (X : gX D (xcell g cI cB cZ cQ) xord g S s H locs) (hl : lv_has ls 4 [(0, .ref (g 1)), (1, .ref (g k1)), (2, .int x2), (3, .int x3)]) (hF : fX3_readTest_b27 N rE k1 x2 x3 S = some o) : W p l e (rmd (d0 + 4)) s m args below meth c H locs 0 0 (gE below args s D (xtys cI cB cZ cQ) (xcell g cI cB cZ cQ) xord g none o.2) (F0 m 27 ls []) := by
  unfold fX3_readTest_b27 at hF
  refine lv_aload_n C.1.1 C.1.2.1 dX3_readTest_27 rfl (lv_at hl 0 rfl) ?_
  refine xg_X3_12 C O.1 X (k := 1) rfl (j := 2) rfl dX3_readTest_28 ?_
  refine lv_bipush (v := 61) C.1.1 C.1.2.1 dX3_readTest_31 (by decide) ?_
  obtain ⟨q1, hq1, hF⟩ := bnd_some hF
  refine x_callVi C X (k := 2) xv_X3_56 (rfl : xk 2 = 8) rfl rfl (by decide) (kX8_isAtSign O.1 C.2.2.2.2.1 N 61 S q1 hq1) (by simp only [rmd]; omega) (by simp only [rmd]; omega) (Nat.zero_le _) (Nat.zero_le _) rfl hl.1 rfl (Nat.le_of_ble_eq_true rfl) dX3_readTest_33 (fun H locs X => ?_)
  refine lv_if_eq (tgt := 69) C.1.1 C.1.2.1 dX3_readTest_36 (by decide) (fun h_z => ?_) (fun h_z => ?_)
  · rw [if_pos h_z] at hF
    exact bX3_readTest_69 C O hd0 KE X (lv_sub hl [] rfl) hF
  · rw [if_neg h_z] at hF
    exact bX3_readTest_39 C O hd0 KE (hk_k1 : xk k1 = 4) X (lv_sub hl [0, 1, 2, 3] rfl) hF
noncomputable def fX3_readTest_b23 (N : Nat) (rE : Nat → Int32 → gS → Option (Int32 × gS)) (k1 : Nat) (x2 : Int32) (x3 : Int32) (S : gS) : Option (Int32 × gS) := if x3 = 0 then fX3_readTest_b27 N rE k1 x2 x3 S else fX3_readTest_b39 N rE k1 x2 x3 S
theorem bX3_readTest_23 {N : Nat} {rE : Nat → Int32 → gS → Option (Int32 × gS)} {d0 : Nat} {k1 : Nat} {x2 : Int32} {x3 : Int32} {S : gS} {H : Heap} {locs : List Loc} {ls : Array Slot} {o : Int32 × gS} (C : gC p s m args meth c cX3_readTest 4 RX3 none D (xtys cI cB cZ cQ) xord g Am) (O : xsO g cI cB cZ cQ Am aK aV) (hd0 : 12 ≤ d0) (KE : ∀ (k1 : Nat) (hk_k1 : xk k1 = 4) (x : Int32) (S : gS) (o : Int32 × gS), rE k1 x S = some o → gM l yX3_readExpr cX3_readExpr 4 none d0 D (xtys cI cB cZ cQ) (xcell g cI cB cZ cQ) xord g Am [.ref (g 1), .ref (g k1), .int x] S none o.2) (hk_k1 : xk k1 = 4) (X : gX D (xcell g cI cB cZ cQ) xord g S s H locs) (hl : lv_has ls 4 [(0, .ref (g 1)), (1, .ref (g k1)), (2, .int x2), (3, .int x3)]) (hF : fX3_readTest_b23 N rE k1 x2 x3 S = some o) : W p l e (rmd (d0 + 4)) s m args below meth c H locs 0 0 (gE below args s D (xtys cI cB cZ cQ) (xcell g cI cB cZ cQ) xord g none o.2) (F0 m 23 ls []) := by
  unfold fX3_readTest_b23 at hF
  refine lv_iload_n C.1.1 C.1.2.1 dX3_readTest_23 rfl (lv_at hl 3 rfl) ?_
  refine lv_if_ne (tgt := 39) C.1.1 C.1.2.1 dX3_readTest_24 (by decide) (fun h_z => ?_) (fun h_z => ?_)
  · rw [if_neg h_z] at hF
    exact bX3_readTest_39 C O hd0 KE (hk_k1 : xk k1 = 4) X (lv_sub hl [0, 1, 2, 3] rfl) hF
  · rw [if_pos h_z] at hF
    exact bX3_readTest_27 C O hd0 KE (hk_k1 : xk k1 = 4) X (lv_sub hl [0, 1, 2, 3] rfl) hF
noncomputable def fX3_readTest_b0 (N : Nat) (rE : Nat → Int32 → gS → Option (Int32 × gS)) (k1 : Nat) (x2 : Int32) (S : gS) : Option (Int32 × gS) := bnd (fX3_readSum N rE k1 x2 S) fun q1 => (bnd (fX8_isAtSign N 60 q1.2) fun q2 => (bnd (fX3_isFine N q2.2) fun q3 => (if q3.1 = 0 then fX3_readTest_b69 N rE q3.2 else fX3_readTest_b23 N rE k1 x2 q2.1 q3.2)))
theorem bX3_readTest_0 {N : Nat} {rE : Nat → Int32 → gS → Option (Int32 × gS)} {d0 : Nat} {k1 : Nat} {x2 : Int32} {S : gS} {H : Heap} {locs : List Loc} {ls : Array Slot} {o : Int32 × gS} (C : gC p s m args meth c cX3_readTest 4 RX3 none D (xtys cI cB cZ cQ) xord g Am) (O : xsO g cI cB cZ cQ Am aK aV) (hd0 : 12 ≤ d0) (KE : ∀ (k1 : Nat) (hk_k1 : xk k1 = 4) (x : Int32) (S : gS) (o : Int32 × gS), rE k1 x S = some o → gM l yX3_readExpr cX3_readExpr 4 none d0 D (xtys cI cB cZ cQ) (xcell g cI cB cZ cQ) xord g Am [.ref (g 1), .ref (g k1), .int x] S none o.2) (hk_k1 : xk k1 = 4) (X : gX D (xcell g cI cB cZ cQ) xord g S s H locs) (hl : lv_has ls 4 [(0, .ref (g 1)), (1, .ref (g k1)), (2, .int x2)]) (hF : fX3_readTest_b0 N rE k1 x2 S = some o) : W p l e (rmd (d0 + 4)) s m args below meth c H locs 0 0 (gE below args s D (xtys cI cB cZ cQ) (xcell g cI cB cZ cQ) xord g none o.2) (F0 m 0 ls []) := by
  unfold fX3_readTest_b0 at hF
  refine lv_aload_n C.1.1 C.1.2.1 dX3_readTest_0 rfl (lv_at hl 0 rfl) ?_
  refine lv_aload_n C.1.1 C.1.2.1 dX3_readTest_1 rfl (lv_at hl 1 rfl) ?_
  refine lv_iload_n C.1.1 C.1.2.1 dX3_readTest_2 rfl (lv_at hl 2 rfl) ?_
  obtain ⟨q1, hq1, hF⟩ := bnd_some hF
  refine x_callV C X (k := 1) xv_X3_198 (rfl : xk 1 = 3) rfl rfl (by decide) (kX3_readSum O C.2.2.2.2.1 N hd0 KE k1 x2 (hk_k1 : xk k1 = 4) S q1 hq1) (by simp only [rmd]; omega) (by simp only [rmd]; omega) (Nat.zero_le _) (Nat.zero_le _) rfl hl.1 rfl (Nat.le_of_ble_eq_true rfl) dX3_readTest_3 (fun H locs X => ?_)
  refine lv_aload_n C.1.1 C.1.2.1 dX3_readTest_6 rfl (lv_at hl 0 rfl) ?_
  refine xg_X3_12 C O.1 X (k := 1) rfl (j := 2) rfl dX3_readTest_7 ?_
  refine lv_bipush (v := 60) C.1.1 C.1.2.1 dX3_readTest_10 (by decide) ?_
  obtain ⟨q2, hq2, hF⟩ := bnd_some hF
  refine x_callVi C X (k := 2) xv_X3_56 (rfl : xk 2 = 8) rfl rfl (by decide) (kX8_isAtSign O.1 C.2.2.2.2.1 N 60 q1.2 q2 hq2) (by simp only [rmd]; omega) (by simp only [rmd]; omega) (Nat.zero_le _) (Nat.zero_le _) rfl hl.1 rfl (Nat.le_of_ble_eq_true rfl) dX3_readTest_12 (fun H locs X => ?_)
  refine lv_istore_n (lv' := [(3, .int q2.1), (0, .ref (g 1)), (1, .ref (g k1)), (2, .int x2)]) C.1.1 C.1.2.1 dX3_readTest_15 rfl hl (by decide) rfl (fun ls hl => ?_)
  refine lv_aload_n C.1.1 C.1.2.1 dX3_readTest_16 rfl (lv_at hl 1 rfl) ?_
  obtain ⟨q3, hq3, hF⟩ := bnd_some hF
  refine x_callVi C X (k := 1) xv_X3_39 (rfl : xk 1 = 3) rfl rfl (by decide) (kX3_isFine O.1 C.2.2.2.2.1 N q2.2 q3 hq3) (by simp only [rmd]; omega) (by simp only [rmd]; omega) (Nat.zero_le _) (Nat.zero_le _) rfl hl.1 rfl (Nat.le_of_ble_eq_true rfl) dX3_readTest_17 (fun H locs X => ?_)
  refine lv_if_eq (tgt := 69) C.1.1 C.1.2.1 dX3_readTest_20 (by decide) (fun h_z => ?_) (fun h_z => ?_)
  · rw [if_pos h_z] at hF
    exact bX3_readTest_69 C O hd0 KE X (lv_sub hl [] rfl) hF
  · rw [if_neg h_z] at hF
    exact bX3_readTest_23 C O hd0 KE (hk_k1 : xk k1 = 4) X (lv_sub hl [1, 2, 3, 0] rfl) hF
noncomputable def fX3_readTest (N : Nat) (rE : Nat → Int32 → gS → Option (Int32 × gS)) (k1 : Nat) (x2 : Int32) (S : gS) : Option (Int32 × gS) := fX3_readTest_b0 N rE k1 x2 S
theorem kX3_readTest {l : Launch} {D : va_G} {g : Nat → Nat} {cI cB cZ cQ : ClassId} {Am : (Nat → Prop) → State → Heap → Prop} {aK aV : Nat → Nat} (O : xsO g cI cB cZ cQ Am aK aV) (P : gAm Am) (N : Nat) {rE : Nat → Int32 → gS → Option (Int32 × gS)} {d0 : Nat} (hd0 : 12 ≤ d0) (KE : ∀ (k1 : Nat) (hk_k1 : xk k1 = 4) (x : Int32) (S : gS) (o : Int32 × gS), rE k1 x S = some o → gM l yX3_readExpr cX3_readExpr 4 none d0 D (xtys cI cB cZ cQ) (xcell g cI cB cZ cQ) xord g Am [.ref (g 1), .ref (g k1), .int x] S none o.2) (k1 : Nat) (x2 : Int32) (hk_k1 : xk k1 = 4) (S : gS) (o : Int32 × gS) (hF : fX3_readTest N rE k1 x2 S = some o) : gM l yX3_readTest cX3_readTest 4 none (d0 + 4) D (xtys cI cB cZ cQ) (xcell g cI cB cZ cQ) xord g Am [.ref (g 1), .ref (g k1), .int x2] S none o.2 :=
  gM_of O.1.1 P (by decide) (Nat.le_of_ble_eq_true rfl) (fun p e s m args below meth c ls C X hl => bX3_readTest_0 C O hd0 KE hk_k1 X (lv_sub hl [0, 1, 2] rfl) hF)
-- X3.readNot
noncomputable def fX3_readNot_b86 (N : Nat) (rE : Nat → Int32 → gS → Option (Int32 × gS)) (S : gS) : Option (Int32 × gS) := some (0, S)
theorem bX3_readNot_86 {N : Nat} {rE : Nat → Int32 → gS → Option (Int32 × gS)} {d0 : Nat} {S : gS} {H : Heap} {locs : List Loc} {ls : Array Slot} {o : Int32 × gS} (C : gC p s m args meth c cX3_readNot 5 RX3 none D (xtys cI cB cZ cQ) xord g Am) (O : xsO g cI cB cZ cQ Am aK aV) (hd0 : 12 ≤ d0) (KE : ∀ (k1 : Nat) (hk_k1 : xk k1 = 4) (x : Int32) (S : gS) (o : Int32 × gS), rE k1 x S = some o → gM l yX3_readExpr cX3_readExpr 4 none d0 D (xtys cI cB cZ cQ) (xcell g cI cB cZ cQ) xord g Am [.ref (g 1), .ref (g k1), .int x] S none o.2) (X : gX D (xcell g cI cB cZ cQ) xord g S s H locs) (hl : lv_has ls 5 []) (hF : fX3_readNot_b86 N rE S = some o) : W p l e (rmd (d0 + 5)) s m args below meth c H locs 0 0 (gE below args s D (xtys cI cB cZ cQ) (xcell g cI cB cZ cQ) xord g none o.2) (F0 m 86 ls []) := by
  unfold fX3_readNot_b86 at hF
  cases hF
  exact g_vret C X dX3_readNot_86
noncomputable def fX3_readNot_b73 (N : Nat) (rE : Nat → Int32 → gS → Option (Int32 × gS)) (r67 : Nat → Int32 → Int32 → gS → Option (Int32 × gS)) (k1 : Nat) (x3 : Int32) (x4 : Int32) (S : gS) : Option (Int32 × gS) := bnd (fX4_add N k1 10010 S) fun q1 => (r67 k1 x3 ((x4 + 1 : Int32)) q1.2)
theorem bX3_readNot_73 {N : Nat} {rE : Nat → Int32 → gS → Option (Int32 × gS)} {d0 : Nat} {r67 : Nat → Int32 → Int32 → gS → Option (Int32 × gS)} {k1 : Nat} {x3 : Int32} {x4 : Int32} {S : gS} {H : Heap} {locs : List Loc} {ls : Array Slot} {o : Int32 × gS} (C : gC p s m args meth c cX3_readNot 5 RX3 none D (xtys cI cB cZ cQ) xord g Am) (O : xsO g cI cB cZ cQ Am aK aV) (hd0 : 12 ≤ d0) (KE : ∀ (k1 : Nat) (hk_k1 : xk k1 = 4) (x : Int32) (S : gS) (o : Int32 × gS), rE k1 x S = some o → gM l yX3_readExpr cX3_readExpr 4 none d0 D (xtys cI cB cZ cQ) (xcell g cI cB cZ cQ) xord g Am [.ref (g 1), .ref (g k1), .int x] S none o.2) (K67 : ∀ (k1 : Nat) (x3 : Int32) (x4 : Int32) (hk_k1 : xk k1 = 4) (S : gS) (H : Heap) (locs : List Loc) (ls : Array Slot), gX D (xcell g cI cB cZ cQ) xord g S s H locs → lv_has ls 5 [(1, .ref (g k1)), (3, .int x3), (4, .int x4)] → r67 k1 x3 x4 S = some o → W p l e (rmd (d0 + 5)) s m args below meth c H locs 0 0 (gE below args s D (xtys cI cB cZ cQ) (xcell g cI cB cZ cQ) xord g none o.2) (F0 m 67 ls [])) (hk_k1 : xk k1 = 4) (X : gX D (xcell g cI cB cZ cQ) xord g S s H locs) (hl : lv_has ls 5 [(1, .ref (g k1)), (3, .int x3), (4, .int x4)]) (hF : fX3_readNot_b73 N rE r67 k1 x3 x4 S = some o) : W p l e (rmd (d0 + 5)) s m args below meth c H locs 0 0 (gE below args s D (xtys cI cB cZ cQ) (xcell g cI cB cZ cQ) xord g none o.2) (F0 m 73 ls []) := by
  unfold fX3_readNot_b73 at hF
  refine lv_aload_n C.1.1 C.1.2.1 dX3_readNot_73 rfl (lv_at hl 0 rfl) ?_
  refine lv_sipush (v := 10010) C.1.1 C.1.2.1 dX3_readNot_74 (by decide) ?_
  obtain ⟨q1, hq1, hF⟩ := bnd_some hF
  refine x_callV C X (k := k1) xv_X3_185 hk_k1 rfl rfl (by decide) (kX4_add O.1 C.2.2.2.2.1 N k1 10010 (hk_k1 : xk k1 = 4) S q1 hq1) (by simp only [rmd]; omega) (by simp only [rmd]; omega) (Nat.zero_le _) (Nat.zero_le _) rfl hl.1 rfl (Nat.le_of_ble_eq_true rfl) dX3_readNot_77 (fun H locs X => ?_)
  refine lv_iinc (v := (x4 + 1 : Int32)) (lv' := [(4, .int ((x4 + 1 : Int32))), (1, .ref (g k1)), (3, .int x3)]) C.1.1 C.1.2.1 dX3_readNot_80 hl (k := 2) rfl rfl (by decide) rfl (fun ls hl => ?_)
  refine lv_goto (tgt := 67) C.1.1 C.1.2.1 dX3_readNot_83 (by decide) ?_
  exact K67 _ _ _ (hk_k1 : xk k1 = 4) _ _ _ _ X (lv_sub hl [1, 2, 0] rfl) hF
noncomputable def fX3_readNot_b67 (N : Nat) (rE : Nat → Int32 → gS → Option (Int32 × gS)) (r67 : Nat → Int32 → Int32 → gS → Option (Int32 × gS)) (k1 : Nat) (x3 : Int32) (x4 : Int32) (S : gS) : Option (Int32 × gS) := if x3 ≤ x4 then fX3_readNot_b86 N rE S else fX3_readNot_b73 N rE r67 k1 x3 x4 S
theorem bX3_readNot_67 {N : Nat} {rE : Nat → Int32 → gS → Option (Int32 × gS)} {d0 : Nat} {r67 : Nat → Int32 → Int32 → gS → Option (Int32 × gS)} {k1 : Nat} {x3 : Int32} {x4 : Int32} {S : gS} {H : Heap} {locs : List Loc} {ls : Array Slot} {o : Int32 × gS} (C : gC p s m args meth c cX3_readNot 5 RX3 none D (xtys cI cB cZ cQ) xord g Am) (O : xsO g cI cB cZ cQ Am aK aV) (hd0 : 12 ≤ d0) (KE : ∀ (k1 : Nat) (hk_k1 : xk k1 = 4) (x : Int32) (S : gS) (o : Int32 × gS), rE k1 x S = some o → gM l yX3_readExpr cX3_readExpr 4 none d0 D (xtys cI cB cZ cQ) (xcell g cI cB cZ cQ) xord g Am [.ref (g 1), .ref (g k1), .int x] S none o.2) (K67 : ∀ (k1 : Nat) (x3 : Int32) (x4 : Int32) (hk_k1 : xk k1 = 4) (S : gS) (H : Heap) (locs : List Loc) (ls : Array Slot), gX D (xcell g cI cB cZ cQ) xord g S s H locs → lv_has ls 5 [(1, .ref (g k1)), (3, .int x3), (4, .int x4)] → r67 k1 x3 x4 S = some o → W p l e (rmd (d0 + 5)) s m args below meth c H locs 0 0 (gE below args s D (xtys cI cB cZ cQ) (xcell g cI cB cZ cQ) xord g none o.2) (F0 m 67 ls [])) (hk_k1 : xk k1 = 4) (X : gX D (xcell g cI cB cZ cQ) xord g S s H locs) (hl : lv_has ls 5 [(1, .ref (g k1)), (3, .int x3), (4, .int x4)]) (hF : fX3_readNot_b67 N rE r67 k1 x3 x4 S = some o) : W p l e (rmd (d0 + 5)) s m args below meth c H locs 0 0 (gE below args s D (xtys cI cB cZ cQ) (xcell g cI cB cZ cQ) xord g none o.2) (F0 m 67 ls []) := by
  unfold fX3_readNot_b67 at hF
  refine lv_iload C.1.1 C.1.2.1 dX3_readNot_67 (lv_at hl 2 rfl) ?_
  refine lv_iload_n C.1.1 C.1.2.1 dX3_readNot_69 rfl (lv_at hl 1 rfl) ?_
  refine lv_icmp_ge (tgt := 86) C.1.1 C.1.2.1 dX3_readNot_70 (by decide) (fun h_z => ?_) (fun h_z => ?_)
  · rw [if_pos h_z] at hF
    exact bX3_readNot_86 C O hd0 KE X (lv_sub hl [] rfl) hF
  · rw [if_neg h_z] at hF
    exact bX3_readNot_73 C O hd0 KE K67 (hk_k1 : xk k1 = 4) X (lv_sub hl [0, 1, 2] rfl) hF
noncomputable def fX3_readNot_h67 (N : Nat) (rE : Nat → Int32 → gS → Option (Int32 × gS)) : Nat → Nat → Int32 → Int32 → gS → Option (Int32 × gS)
  | 0, _, _, _, _ => none
  | n + 1, k1, x3, x4, S => fX3_readNot_b67 N rE (fX3_readNot_h67 N rE n) k1 x3 x4 S
theorem hX3_readNot_67 {N : Nat} {rE : Nat → Int32 → gS → Option (Int32 × gS)} {d0 : Nat} {o : Int32 × gS} (C : gC p s m args meth c cX3_readNot 5 RX3 none D (xtys cI cB cZ cQ) xord g Am) (O : xsO g cI cB cZ cQ Am aK aV) (hd0 : 12 ≤ d0) (KE : ∀ (k1 : Nat) (hk_k1 : xk k1 = 4) (x : Int32) (S : gS) (o : Int32 × gS), rE k1 x S = some o → gM l yX3_readExpr cX3_readExpr 4 none d0 D (xtys cI cB cZ cQ) (xcell g cI cB cZ cQ) xord g Am [.ref (g 1), .ref (g k1), .int x] S none o.2) : ∀ (n : Nat) (k1 : Nat) (x3 : Int32) (x4 : Int32) (hk_k1 : xk k1 = 4) (S : gS) (H : Heap) (locs : List Loc) (ls : Array Slot), gX D (xcell g cI cB cZ cQ) xord g S s H locs → lv_has ls 5 [(1, .ref (g k1)), (3, .int x3), (4, .int x4)] → fX3_readNot_h67 N rE n k1 x3 x4 S = some o → W p l e (rmd (d0 + 5)) s m args below meth c H locs 0 0 (gE below args s D (xtys cI cB cZ cQ) (xcell g cI cB cZ cQ) xord g none o.2) (F0 m 67 ls []) := by
  intro n
  induction n with
  | zero =>
    intro k1 x3 x4 hk_k1 S H locs ls X hl hF
    exact absurd (show (none : Option (Int32 × gS)) = some o from hF) (by simp)
  | succ n ih =>
    intro k1 x3 x4 hk_k1 S H locs ls X hl hF
    have hF : fX3_readNot_b67 N rE (fX3_readNot_h67 N rE n) k1 x3 x4 S = some o := hF
    exact bX3_readNot_67 C O hd0 KE ih hk_k1 X hl hF
noncomputable def fX3_readNot_b58 (N : Nat) (rE : Nat → Int32 → gS → Option (Int32 × gS)) (k1 : Nat) (x2 : Int32) (x3 : Int32) (S : gS) : Option (Int32 × gS) := bnd (fX3_readTest N rE k1 x2 S) fun q1 => (fX3_readNot_h67 N rE N k1 x3 0 q1.2)
theorem bX3_readNot_58 {N : Nat} {rE : Nat → Int32 → gS → Option (Int32 × gS)} {d0 : Nat} {k1 : Nat} {x2 : Int32} {x3 : Int32} {S : gS} {H : Heap} {locs : List Loc} {ls : Array Slot} {o : Int32 × gS} (C : gC p s m args meth c cX3_readNot 5 RX3 none D (xtys cI cB cZ cQ) xord g Am) (O : xsO g cI cB cZ cQ Am aK aV) (hd0 : 12 ≤ d0) (KE : ∀ (k1 : Nat) (hk_k1 : xk k1 = 4) (x : Int32) (S : gS) (o : Int32 × gS), rE k1 x S = some o → gM l yX3_readExpr cX3_readExpr 4 none d0 D (xtys cI cB cZ cQ) (xcell g cI cB cZ cQ) xord g Am [.ref (g 1), .ref (g k1), .int x] S none o.2) (hk_k1 : xk k1 = 4) (X : gX D (xcell g cI cB cZ cQ) xord g S s H locs) (hl : lv_has ls 5 [(0, .ref (g 1)), (1, .ref (g k1)), (2, .int x2), (3, .int x3)]) (hF : fX3_readNot_b58 N rE k1 x2 x3 S = some o) : W p l e (rmd (d0 + 5)) s m args below meth c H locs 0 0 (gE below args s D (xtys cI cB cZ cQ) (xcell g cI cB cZ cQ) xord g none o.2) (F0 m 58 ls []) := by
  unfold fX3_readNot_b58 at hF
  refine lv_aload_n C.1.1 C.1.2.1 dX3_readNot_58 rfl (lv_at hl 0 rfl) ?_
  refine lv_aload_n C.1.1 C.1.2.1 dX3_readNot_59 rfl (lv_at hl 1 rfl) ?_
  refine lv_iload_n C.1.1 C.1.2.1 dX3_readNot_60 rfl (lv_at hl 2 rfl) ?_
  obtain ⟨q1, hq1, hF⟩ := bnd_some hF
  refine x_callV C X (k := 1) xv_X3_195 (rfl : xk 1 = 3) rfl rfl (by decide) (kX3_readTest O C.2.2.2.2.1 N hd0 KE k1 x2 (hk_k1 : xk k1 = 4) S q1 hq1) (by simp only [rmd]; omega) (by simp only [rmd]; omega) (Nat.zero_le _) (Nat.zero_le _) rfl hl.1 rfl (Nat.le_of_ble_eq_true rfl) dX3_readNot_61 (fun H locs X => ?_)
  refine lv_iconst (v := 0) C.1.1 C.1.2.1 dX3_readNot_64 (by decide) ?_
  refine lv_istore (lv' := [(4, .int 0), (0, .ref (g 1)), (1, .ref (g k1)), (2, .int x2), (3, .int x3)]) C.1.1 C.1.2.1 dX3_readNot_65 hl (by decide) rfl (fun ls hl => ?_)
  exact hX3_readNot_67 C O hd0 KE N _ _ _ (hk_k1 : xk k1 = 4) _ _ _ _ X (lv_sub hl [2, 4, 0] rfl) hF
noncomputable def fX3_readNot_b52 (N : Nat) (rE : Nat → Int32 → gS → Option (Int32 × gS)) (S : gS) : Option (Int32 × gS) := bnd (fX3_refuse N 2 S) fun q1 => (some (0, q1.2))
theorem bX3_readNot_52 {N : Nat} {rE : Nat → Int32 → gS → Option (Int32 × gS)} {d0 : Nat} {S : gS} {H : Heap} {locs : List Loc} {ls : Array Slot} {o : Int32 × gS} (C : gC p s m args meth c cX3_readNot 5 RX3 none D (xtys cI cB cZ cQ) xord g Am) (O : xsO g cI cB cZ cQ Am aK aV) (hd0 : 12 ≤ d0) (KE : ∀ (k1 : Nat) (hk_k1 : xk k1 = 4) (x : Int32) (S : gS) (o : Int32 × gS), rE k1 x S = some o → gM l yX3_readExpr cX3_readExpr 4 none d0 D (xtys cI cB cZ cQ) (xcell g cI cB cZ cQ) xord g Am [.ref (g 1), .ref (g k1), .int x] S none o.2) (X : gX D (xcell g cI cB cZ cQ) xord g S s H locs) (hl : lv_has ls 5 [(0, .ref (g 1))]) (hF : fX3_readNot_b52 N rE S = some o) : W p l e (rmd (d0 + 5)) s m args below meth c H locs 0 0 (gE below args s D (xtys cI cB cZ cQ) (xcell g cI cB cZ cQ) xord g none o.2) (F0 m 52 ls []) := by
  unfold fX3_readNot_b52 at hF
  refine lv_aload_n C.1.1 C.1.2.1 dX3_readNot_52 rfl (lv_at hl 0 rfl) ?_
  refine lv_iconst (v := 2) C.1.1 C.1.2.1 dX3_readNot_53 (by decide) ?_
  obtain ⟨q1, hq1, hF⟩ := bnd_some hF
  refine x_callV C X (k := 1) xv_X3_60 (rfl : xk 1 = 3) rfl rfl (by decide) (kX3_refuse O.1 C.2.2.2.2.1 N 2 S q1 hq1) (by simp only [rmd]; omega) (by simp only [rmd]; omega) (Nat.zero_le _) (Nat.zero_le _) rfl hl.1 rfl (Nat.le_of_ble_eq_true rfl) dX3_readNot_54 (fun H locs X => ?_)
  cases hF
  exact g_vret C X dX3_readNot_57
noncomputable def fX3_readNot_b40 (N : Nat) (rE : Nat → Int32 → gS → Option (Int32 × gS)) (k1 : Nat) (x2 : Int32) (x3 : Int32) (S : gS) : Option (Int32 × gS) := bnd (fX8_isAtWord N 9 S) fun q1 => (if q1.1 = 0 then fX3_readNot_b58 N rE k1 x2 x3 q1.2 else fX3_readNot_b52 N rE q1.2)
theorem bX3_readNot_40 {N : Nat} {rE : Nat → Int32 → gS → Option (Int32 × gS)} {d0 : Nat} {k1 : Nat} {x2 : Int32} {x3 : Int32} {S : gS} {H : Heap} {locs : List Loc} {ls : Array Slot} {o : Int32 × gS} (C : gC p s m args meth c cX3_readNot 5 RX3 none D (xtys cI cB cZ cQ) xord g Am) (O : xsO g cI cB cZ cQ Am aK aV) (hd0 : 12 ≤ d0) (KE : ∀ (k1 : Nat) (hk_k1 : xk k1 = 4) (x : Int32) (S : gS) (o : Int32 × gS), rE k1 x S = some o → gM l yX3_readExpr cX3_readExpr 4 none d0 D (xtys cI cB cZ cQ) (xcell g cI cB cZ cQ) xord g Am [.ref (g 1), .ref (g k1), .int x] S none o.2) (hk_k1 : xk k1 = 4) (X : gX D (xcell g cI cB cZ cQ) xord g S s H locs) (hl : lv_has ls 5 [(0, .ref (g 1)), (1, .ref (g k1)), (2, .int x2), (3, .int x3)]) (hF : fX3_readNot_b40 N rE k1 x2 x3 S = some o) : W p l e (rmd (d0 + 5)) s m args below meth c H locs 0 0 (gE below args s D (xtys cI cB cZ cQ) (xcell g cI cB cZ cQ) xord g none o.2) (F0 m 40 ls []) := by
  unfold fX3_readNot_b40 at hF
  refine lv_aload_n C.1.1 C.1.2.1 dX3_readNot_40 rfl (lv_at hl 0 rfl) ?_
  refine xg_X3_12 C O.1 X (k := 1) rfl (j := 2) rfl dX3_readNot_41 ?_
  refine s_ldc C (xs_sO O) (i := 9) rfl dX3_readNot_44 ?_
  obtain ⟨q1, hq1, hF⟩ := bnd_some hF
  refine x_callVi C X (k := 2) xv_X3_75 (rfl : xk 2 = 8) rfl rfl (by decide) (kX8_isAtWord O C.2.2.2.2.1 N 9 (rfl : sI 9 = true) S q1 hq1) (by simp only [rmd]; omega) (by simp only [rmd]; omega) (Nat.zero_le _) (Nat.zero_le _) rfl hl.1 rfl (Nat.le_of_ble_eq_true rfl) dX3_readNot_46 (fun H locs X => ?_)
  refine lv_if_eq (tgt := 58) C.1.1 C.1.2.1 dX3_readNot_49 (by decide) (fun h_z => ?_) (fun h_z => ?_)
  · rw [if_pos h_z] at hF
    exact bX3_readNot_58 C O hd0 KE (hk_k1 : xk k1 = 4) X (lv_sub hl [0, 1, 2, 3] rfl) hF
  · rw [if_neg h_z] at hF
    exact bX3_readNot_52 C O hd0 KE X (lv_sub hl [0] rfl) hF
noncomputable def fX3_readNot_b24 (N : Nat) (rE : Nat → Int32 → gS → Option (Int32 × gS)) (r5 : Nat → Int32 → Int32 → Int32 → gS → Option (Int32 × gS)) (k1 : Nat) (x2 : Int32) (x3 : Int32) (x4 : Int32) (S : gS) : Option (Int32 × gS) := bnd (fX8_advance N S) fun q1 => (r5 k1 x2 ((x3 + 1 : Int32)) ((x4 + 1 : Int32)) q1.2)
theorem bX3_readNot_24 {N : Nat} {rE : Nat → Int32 → gS → Option (Int32 × gS)} {d0 : Nat} {r5 : Nat → Int32 → Int32 → Int32 → gS → Option (Int32 × gS)} {k1 : Nat} {x2 : Int32} {x3 : Int32} {x4 : Int32} {S : gS} {H : Heap} {locs : List Loc} {ls : Array Slot} {o : Int32 × gS} (C : gC p s m args meth c cX3_readNot 5 RX3 none D (xtys cI cB cZ cQ) xord g Am) (O : xsO g cI cB cZ cQ Am aK aV) (hd0 : 12 ≤ d0) (KE : ∀ (k1 : Nat) (hk_k1 : xk k1 = 4) (x : Int32) (S : gS) (o : Int32 × gS), rE k1 x S = some o → gM l yX3_readExpr cX3_readExpr 4 none d0 D (xtys cI cB cZ cQ) (xcell g cI cB cZ cQ) xord g Am [.ref (g 1), .ref (g k1), .int x] S none o.2) (K5 : ∀ (k1 : Nat) (x2 : Int32) (x3 : Int32) (x4 : Int32) (hk_k1 : xk k1 = 4) (S : gS) (H : Heap) (locs : List Loc) (ls : Array Slot), gX D (xcell g cI cB cZ cQ) xord g S s H locs → lv_has ls 5 [(0, .ref (g 1)), (1, .ref (g k1)), (2, .int x2), (3, .int x3), (4, .int x4)] → r5 k1 x2 x3 x4 S = some o → W p l e (rmd (d0 + 5)) s m args below meth c H locs 0 0 (gE below args s D (xtys cI cB cZ cQ) (xcell g cI cB cZ cQ) xord g none o.2) (F0 m 5 ls [])) (hk_k1 : xk k1 = 4) (X : gX D (xcell g cI cB cZ cQ) xord g S s H locs) (hl : lv_has ls 5 [(0, .ref (g 1)), (1, .ref (g k1)), (2, .int x2), (3, .int x3), (4, .int x4)]) (hF : fX3_readNot_b24 N rE r5 k1 x2 x3 x4 S = some o) : W p l e (rmd (d0 + 5)) s m args below meth c H locs 0 0 (gE below args s D (xtys cI cB cZ cQ) (xcell g cI cB cZ cQ) xord g none o.2) (F0 m 24 ls []) := by
  unfold fX3_readNot_b24 at hF
  refine lv_aload_n C.1.1 C.1.2.1 dX3_readNot_24 rfl (lv_at hl 0 rfl) ?_
  refine xg_X3_12 C O.1 X (k := 1) rfl (j := 2) rfl dX3_readNot_25 ?_
  obtain ⟨q1, hq1, hF⟩ := bnd_some hF
  refine x_callV C X (k := 2) xv_X3_63 (rfl : xk 2 = 8) rfl rfl (by decide) (kX8_advance O C.2.2.2.2.1 N S q1 hq1) (by simp only [rmd]; omega) (by simp only [rmd]; omega) (Nat.zero_le _) (Nat.zero_le _) rfl hl.1 rfl (Nat.le_of_ble_eq_true rfl) dX3_readNot_28 (fun H locs X => ?_)
  refine lv_iinc (v := (x3 + 1 : Int32)) (lv' := [(3, .int ((x3 + 1 : Int32))), (0, .ref (g 1)), (1, .ref (g k1)), (2, .int x2), (4, .int x4)]) C.1.1 C.1.2.1 dX3_readNot_31 hl (k := 3) rfl rfl (by decide) rfl (fun ls hl => ?_)
  refine lv_iinc (v := (x4 + 1 : Int32)) (lv' := [(4, .int ((x4 + 1 : Int32))), (3, .int ((x3 + 1 : Int32))), (0, .ref (g 1)), (1, .ref (g k1)), (2, .int x2)]) C.1.1 C.1.2.1 dX3_readNot_34 hl (k := 4) rfl rfl (by decide) rfl (fun ls hl => ?_)
  refine lv_goto (tgt := 5) C.1.1 C.1.2.1 dX3_readNot_37 (by decide) ?_
  exact K5 _ _ _ _ (hk_k1 : xk k1 = 4) _ _ _ _ X (lv_sub hl [2, 3, 4, 1, 0] rfl) hF
noncomputable def fX3_readNot_b12 (N : Nat) (rE : Nat → Int32 → gS → Option (Int32 × gS)) (r5 : Nat → Int32 → Int32 → Int32 → gS → Option (Int32 × gS)) (k1 : Nat) (x2 : Int32) (x3 : Int32) (x4 : Int32) (S : gS) : Option (Int32 × gS) := bnd (fX8_isAtWord N 9 S) fun q1 => (if q1.1 = 0 then fX3_readNot_b40 N rE k1 x2 x3 q1.2 else fX3_readNot_b24 N rE r5 k1 x2 x3 x4 q1.2)
theorem bX3_readNot_12 {N : Nat} {rE : Nat → Int32 → gS → Option (Int32 × gS)} {d0 : Nat} {r5 : Nat → Int32 → Int32 → Int32 → gS → Option (Int32 × gS)} {k1 : Nat} {x2 : Int32} {x3 : Int32} {x4 : Int32} {S : gS} {H : Heap} {locs : List Loc} {ls : Array Slot} {o : Int32 × gS} (C : gC p s m args meth c cX3_readNot 5 RX3 none D (xtys cI cB cZ cQ) xord g Am) (O : xsO g cI cB cZ cQ Am aK aV) (hd0 : 12 ≤ d0) (KE : ∀ (k1 : Nat) (hk_k1 : xk k1 = 4) (x : Int32) (S : gS) (o : Int32 × gS), rE k1 x S = some o → gM l yX3_readExpr cX3_readExpr 4 none d0 D (xtys cI cB cZ cQ) (xcell g cI cB cZ cQ) xord g Am [.ref (g 1), .ref (g k1), .int x] S none o.2) (K5 : ∀ (k1 : Nat) (x2 : Int32) (x3 : Int32) (x4 : Int32) (hk_k1 : xk k1 = 4) (S : gS) (H : Heap) (locs : List Loc) (ls : Array Slot), gX D (xcell g cI cB cZ cQ) xord g S s H locs → lv_has ls 5 [(0, .ref (g 1)), (1, .ref (g k1)), (2, .int x2), (3, .int x3), (4, .int x4)] → r5 k1 x2 x3 x4 S = some o → W p l e (rmd (d0 + 5)) s m args below meth c H locs 0 0 (gE below args s D (xtys cI cB cZ cQ) (xcell g cI cB cZ cQ) xord g none o.2) (F0 m 5 ls [])) (hk_k1 : xk k1 = 4) (X : gX D (xcell g cI cB cZ cQ) xord g S s H locs) (hl : lv_has ls 5 [(0, .ref (g 1)), (1, .ref (g k1)), (2, .int x2), (3, .int x3), (4, .int x4)]) (hF : fX3_readNot_b12 N rE r5 k1 x2 x3 x4 S = some o) : W p l e (rmd (d0 + 5)) s m args below meth c H locs 0 0 (gE below args s D (xtys cI cB cZ cQ) (xcell g cI cB cZ cQ) xord g none o.2) (F0 m 12 ls []) := by
  unfold fX3_readNot_b12 at hF
  refine lv_aload_n C.1.1 C.1.2.1 dX3_readNot_12 rfl (lv_at hl 0 rfl) ?_
  refine xg_X3_12 C O.1 X (k := 1) rfl (j := 2) rfl dX3_readNot_13 ?_
  refine s_ldc C (xs_sO O) (i := 9) rfl dX3_readNot_16 ?_
  obtain ⟨q1, hq1, hF⟩ := bnd_some hF
  refine x_callVi C X (k := 2) xv_X3_75 (rfl : xk 2 = 8) rfl rfl (by decide) (kX8_isAtWord O C.2.2.2.2.1 N 9 (rfl : sI 9 = true) S q1 hq1) (by simp only [rmd]; omega) (by simp only [rmd]; omega) (Nat.zero_le _) (Nat.zero_le _) rfl hl.1 rfl (Nat.le_of_ble_eq_true rfl) dX3_readNot_18 (fun H locs X => ?_)
  refine lv_if_eq (tgt := 40) C.1.1 C.1.2.1 dX3_readNot_21 (by decide) (fun h_z => ?_) (fun h_z => ?_)
  · rw [if_pos h_z] at hF
    exact bX3_readNot_40 C O hd0 KE (hk_k1 : xk k1 = 4) X (lv_sub hl [0, 1, 2, 3] rfl) hF
  · rw [if_neg h_z] at hF
    exact bX3_readNot_24 C O hd0 KE K5 (hk_k1 : xk k1 = 4) X (lv_sub hl [0, 1, 2, 3, 4] rfl) hF
noncomputable def fX3_readNot_b5 (N : Nat) (rE : Nat → Int32 → gS → Option (Int32 × gS)) (r5 : Nat → Int32 → Int32 → Int32 → gS → Option (Int32 × gS)) (k1 : Nat) (x2 : Int32) (x3 : Int32) (x4 : Int32) (S : gS) : Option (Int32 × gS) := if 6 ≤ x4 then fX3_readNot_b40 N rE k1 x2 x3 S else fX3_readNot_b12 N rE r5 k1 x2 x3 x4 S
theorem bX3_readNot_5 {N : Nat} {rE : Nat → Int32 → gS → Option (Int32 × gS)} {d0 : Nat} {r5 : Nat → Int32 → Int32 → Int32 → gS → Option (Int32 × gS)} {k1 : Nat} {x2 : Int32} {x3 : Int32} {x4 : Int32} {S : gS} {H : Heap} {locs : List Loc} {ls : Array Slot} {o : Int32 × gS} (C : gC p s m args meth c cX3_readNot 5 RX3 none D (xtys cI cB cZ cQ) xord g Am) (O : xsO g cI cB cZ cQ Am aK aV) (hd0 : 12 ≤ d0) (KE : ∀ (k1 : Nat) (hk_k1 : xk k1 = 4) (x : Int32) (S : gS) (o : Int32 × gS), rE k1 x S = some o → gM l yX3_readExpr cX3_readExpr 4 none d0 D (xtys cI cB cZ cQ) (xcell g cI cB cZ cQ) xord g Am [.ref (g 1), .ref (g k1), .int x] S none o.2) (K5 : ∀ (k1 : Nat) (x2 : Int32) (x3 : Int32) (x4 : Int32) (hk_k1 : xk k1 = 4) (S : gS) (H : Heap) (locs : List Loc) (ls : Array Slot), gX D (xcell g cI cB cZ cQ) xord g S s H locs → lv_has ls 5 [(0, .ref (g 1)), (1, .ref (g k1)), (2, .int x2), (3, .int x3), (4, .int x4)] → r5 k1 x2 x3 x4 S = some o → W p l e (rmd (d0 + 5)) s m args below meth c H locs 0 0 (gE below args s D (xtys cI cB cZ cQ) (xcell g cI cB cZ cQ) xord g none o.2) (F0 m 5 ls [])) (hk_k1 : xk k1 = 4) (X : gX D (xcell g cI cB cZ cQ) xord g S s H locs) (hl : lv_has ls 5 [(0, .ref (g 1)), (1, .ref (g k1)), (2, .int x2), (3, .int x3), (4, .int x4)]) (hF : fX3_readNot_b5 N rE r5 k1 x2 x3 x4 S = some o) : W p l e (rmd (d0 + 5)) s m args below meth c H locs 0 0 (gE below args s D (xtys cI cB cZ cQ) (xcell g cI cB cZ cQ) xord g none o.2) (F0 m 5 ls []) := by
  unfold fX3_readNot_b5 at hF
  refine lv_iload C.1.1 C.1.2.1 dX3_readNot_5 (lv_at hl 4 rfl) ?_
  refine lv_bipush (v := 6) C.1.1 C.1.2.1 dX3_readNot_7 (by decide) ?_
  refine lv_icmp_ge (tgt := 40) C.1.1 C.1.2.1 dX3_readNot_9 (by decide) (fun h_z => ?_) (fun h_z => ?_)
  · rw [if_pos h_z] at hF
    exact bX3_readNot_40 C O hd0 KE (hk_k1 : xk k1 = 4) X (lv_sub hl [0, 1, 2, 3] rfl) hF
  · rw [if_neg h_z] at hF
    exact bX3_readNot_12 C O hd0 KE K5 (hk_k1 : xk k1 = 4) X (lv_sub hl [0, 1, 2, 3, 4] rfl) hF
noncomputable def fX3_readNot_h5 (N : Nat) (rE : Nat → Int32 → gS → Option (Int32 × gS)) : Nat → Nat → Int32 → Int32 → Int32 → gS → Option (Int32 × gS)
  | 0, _, _, _, _, _ => none
  | n + 1, k1, x2, x3, x4, S => fX3_readNot_b5 N rE (fX3_readNot_h5 N rE n) k1 x2 x3 x4 S
theorem hX3_readNot_5 {N : Nat} {rE : Nat → Int32 → gS → Option (Int32 × gS)} {d0 : Nat} {o : Int32 × gS} (C : gC p s m args meth c cX3_readNot 5 RX3 none D (xtys cI cB cZ cQ) xord g Am) (O : xsO g cI cB cZ cQ Am aK aV) (hd0 : 12 ≤ d0) (KE : ∀ (k1 : Nat) (hk_k1 : xk k1 = 4) (x : Int32) (S : gS) (o : Int32 × gS), rE k1 x S = some o → gM l yX3_readExpr cX3_readExpr 4 none d0 D (xtys cI cB cZ cQ) (xcell g cI cB cZ cQ) xord g Am [.ref (g 1), .ref (g k1), .int x] S none o.2) : ∀ (n : Nat) (k1 : Nat) (x2 : Int32) (x3 : Int32) (x4 : Int32) (hk_k1 : xk k1 = 4) (S : gS) (H : Heap) (locs : List Loc) (ls : Array Slot), gX D (xcell g cI cB cZ cQ) xord g S s H locs → lv_has ls 5 [(0, .ref (g 1)), (1, .ref (g k1)), (2, .int x2), (3, .int x3), (4, .int x4)] → fX3_readNot_h5 N rE n k1 x2 x3 x4 S = some o → W p l e (rmd (d0 + 5)) s m args below meth c H locs 0 0 (gE below args s D (xtys cI cB cZ cQ) (xcell g cI cB cZ cQ) xord g none o.2) (F0 m 5 ls []) := by
  intro n
  induction n with
  | zero =>
    intro k1 x2 x3 x4 hk_k1 S H locs ls X hl hF
    exact absurd (show (none : Option (Int32 × gS)) = some o from hF) (by simp)
  | succ n ih =>
    intro k1 x2 x3 x4 hk_k1 S H locs ls X hl hF
    have hF : fX3_readNot_b5 N rE (fX3_readNot_h5 N rE n) k1 x2 x3 x4 S = some o := hF
    exact bX3_readNot_5 C O hd0 KE ih hk_k1 X hl hF
noncomputable def fX3_readNot_b0 (N : Nat) (rE : Nat → Int32 → gS → Option (Int32 × gS)) (k1 : Nat) (x2 : Int32) (S : gS) : Option (Int32 × gS) := fX3_readNot_h5 N rE N k1 x2 0 0 S
theorem bX3_readNot_0 {N : Nat} {rE : Nat → Int32 → gS → Option (Int32 × gS)} {d0 : Nat} {k1 : Nat} {x2 : Int32} {S : gS} {H : Heap} {locs : List Loc} {ls : Array Slot} {o : Int32 × gS} (C : gC p s m args meth c cX3_readNot 5 RX3 none D (xtys cI cB cZ cQ) xord g Am) (O : xsO g cI cB cZ cQ Am aK aV) (hd0 : 12 ≤ d0) (KE : ∀ (k1 : Nat) (hk_k1 : xk k1 = 4) (x : Int32) (S : gS) (o : Int32 × gS), rE k1 x S = some o → gM l yX3_readExpr cX3_readExpr 4 none d0 D (xtys cI cB cZ cQ) (xcell g cI cB cZ cQ) xord g Am [.ref (g 1), .ref (g k1), .int x] S none o.2) (hk_k1 : xk k1 = 4) (X : gX D (xcell g cI cB cZ cQ) xord g S s H locs) (hl : lv_has ls 5 [(0, .ref (g 1)), (1, .ref (g k1)), (2, .int x2)]) (hF : fX3_readNot_b0 N rE k1 x2 S = some o) : W p l e (rmd (d0 + 5)) s m args below meth c H locs 0 0 (gE below args s D (xtys cI cB cZ cQ) (xcell g cI cB cZ cQ) xord g none o.2) (F0 m 0 ls []) := by
  unfold fX3_readNot_b0 at hF
  refine lv_iconst (v := 0) C.1.1 C.1.2.1 dX3_readNot_0 (by decide) ?_
  refine lv_istore_n (lv' := [(3, .int 0), (0, .ref (g 1)), (1, .ref (g k1)), (2, .int x2)]) C.1.1 C.1.2.1 dX3_readNot_1 rfl hl (by decide) rfl (fun ls hl => ?_)
  refine lv_iconst (v := 0) C.1.1 C.1.2.1 dX3_readNot_2 (by decide) ?_
  refine lv_istore (lv' := [(4, .int 0), (3, .int 0), (0, .ref (g 1)), (1, .ref (g k1)), (2, .int x2)]) C.1.1 C.1.2.1 dX3_readNot_3 hl (by decide) rfl (fun ls hl => ?_)
  exact hX3_readNot_5 C O hd0 KE N _ _ _ _ (hk_k1 : xk k1 = 4) _ _ _ _ X (lv_sub hl [2, 3, 4, 1, 0] rfl) hF
noncomputable def fX3_readNot (N : Nat) (rE : Nat → Int32 → gS → Option (Int32 × gS)) (k1 : Nat) (x2 : Int32) (S : gS) : Option (Int32 × gS) := fX3_readNot_b0 N rE k1 x2 S
theorem kX3_readNot {l : Launch} {D : va_G} {g : Nat → Nat} {cI cB cZ cQ : ClassId} {Am : (Nat → Prop) → State → Heap → Prop} {aK aV : Nat → Nat} (O : xsO g cI cB cZ cQ Am aK aV) (P : gAm Am) (N : Nat) {rE : Nat → Int32 → gS → Option (Int32 × gS)} {d0 : Nat} (hd0 : 12 ≤ d0) (KE : ∀ (k1 : Nat) (hk_k1 : xk k1 = 4) (x : Int32) (S : gS) (o : Int32 × gS), rE k1 x S = some o → gM l yX3_readExpr cX3_readExpr 4 none d0 D (xtys cI cB cZ cQ) (xcell g cI cB cZ cQ) xord g Am [.ref (g 1), .ref (g k1), .int x] S none o.2) (k1 : Nat) (x2 : Int32) (hk_k1 : xk k1 = 4) (S : gS) (o : Int32 × gS) (hF : fX3_readNot N rE k1 x2 S = some o) : gM l yX3_readNot cX3_readNot 5 none (d0 + 5) D (xtys cI cB cZ cQ) (xcell g cI cB cZ cQ) xord g Am [.ref (g 1), .ref (g k1), .int x2] S none o.2 :=
  gM_of O.1.1 P (by decide) (Nat.le_of_ble_eq_true rfl) (fun p e s m args below meth c ls C X hl => bX3_readNot_0 C O hd0 KE hk_k1 X (lv_sub hl [0, 1, 2] rfl) hF)
-- X3.readAnd
noncomputable def fX3_readAnd_b60 (N : Nat) (rE : Nat → Int32 → gS → Option (Int32 × gS)) (S : gS) : Option (Int32 × gS) := some (0, S)
theorem bX3_readAnd_60 {N : Nat} {rE : Nat → Int32 → gS → Option (Int32 × gS)} {d0 : Nat} {S : gS} {H : Heap} {locs : List Loc} {ls : Array Slot} {o : Int32 × gS} (C : gC p s m args meth c cX3_readAnd 4 RX3 none D (xtys cI cB cZ cQ) xord g Am) (O : xsO g cI cB cZ cQ Am aK aV) (hd0 : 12 ≤ d0) (KE : ∀ (k1 : Nat) (hk_k1 : xk k1 = 4) (x : Int32) (S : gS) (o : Int32 × gS), rE k1 x S = some o → gM l yX3_readExpr cX3_readExpr 4 none d0 D (xtys cI cB cZ cQ) (xcell g cI cB cZ cQ) xord g Am [.ref (g 1), .ref (g k1), .int x] S none o.2) (X : gX D (xcell g cI cB cZ cQ) xord g S s H locs) (hl : lv_has ls 4 []) (hF : fX3_readAnd_b60 N rE S = some o) : W p l e (rmd (d0 + 6)) s m args below meth c H locs 0 0 (gE below args s D (xtys cI cB cZ cQ) (xcell g cI cB cZ cQ) xord g none o.2) (F0 m 60 ls []) := by
  unfold fX3_readAnd_b60 at hF
  cases hF
  exact g_vret C X dX3_readAnd_60
noncomputable def fX3_readAnd_b34 (N : Nat) (rE : Nat → Int32 → gS → Option (Int32 × gS)) (r8 : Nat → Int32 → Int32 → gS → Option (Int32 × gS)) (k1 : Nat) (x2 : Int32) (x3 : Int32) (S : gS) : Option (Int32 × gS) := bnd (fX8_advance N S) fun q1 => (bnd (fX3_readNot N rE k1 x2 q1.2) fun q2 => (bnd (fX4_add N k1 10012 q2.2) fun q3 => (r8 k1 x2 ((x3 + 1 : Int32)) q3.2)))
theorem bX3_readAnd_34 {N : Nat} {rE : Nat → Int32 → gS → Option (Int32 × gS)} {d0 : Nat} {r8 : Nat → Int32 → Int32 → gS → Option (Int32 × gS)} {k1 : Nat} {x2 : Int32} {x3 : Int32} {S : gS} {H : Heap} {locs : List Loc} {ls : Array Slot} {o : Int32 × gS} (C : gC p s m args meth c cX3_readAnd 4 RX3 none D (xtys cI cB cZ cQ) xord g Am) (O : xsO g cI cB cZ cQ Am aK aV) (hd0 : 12 ≤ d0) (KE : ∀ (k1 : Nat) (hk_k1 : xk k1 = 4) (x : Int32) (S : gS) (o : Int32 × gS), rE k1 x S = some o → gM l yX3_readExpr cX3_readExpr 4 none d0 D (xtys cI cB cZ cQ) (xcell g cI cB cZ cQ) xord g Am [.ref (g 1), .ref (g k1), .int x] S none o.2) (K8 : ∀ (k1 : Nat) (x2 : Int32) (x3 : Int32) (hk_k1 : xk k1 = 4) (S : gS) (H : Heap) (locs : List Loc) (ls : Array Slot), gX D (xcell g cI cB cZ cQ) xord g S s H locs → lv_has ls 4 [(0, .ref (g 1)), (1, .ref (g k1)), (2, .int x2), (3, .int x3)] → r8 k1 x2 x3 S = some o → W p l e (rmd (d0 + 6)) s m args below meth c H locs 0 0 (gE below args s D (xtys cI cB cZ cQ) (xcell g cI cB cZ cQ) xord g none o.2) (F0 m 8 ls [])) (hk_k1 : xk k1 = 4) (X : gX D (xcell g cI cB cZ cQ) xord g S s H locs) (hl : lv_has ls 4 [(0, .ref (g 1)), (1, .ref (g k1)), (2, .int x2), (3, .int x3)]) (hF : fX3_readAnd_b34 N rE r8 k1 x2 x3 S = some o) : W p l e (rmd (d0 + 6)) s m args below meth c H locs 0 0 (gE below args s D (xtys cI cB cZ cQ) (xcell g cI cB cZ cQ) xord g none o.2) (F0 m 34 ls []) := by
  unfold fX3_readAnd_b34 at hF
  refine lv_aload_n C.1.1 C.1.2.1 dX3_readAnd_34 rfl (lv_at hl 0 rfl) ?_
  refine xg_X3_12 C O.1 X (k := 1) rfl (j := 2) rfl dX3_readAnd_35 ?_
  obtain ⟨q1, hq1, hF⟩ := bnd_some hF
  refine x_callV C X (k := 2) xv_X3_63 (rfl : xk 2 = 8) rfl rfl (by decide) (kX8_advance O C.2.2.2.2.1 N S q1 hq1) (by simp only [rmd]; omega) (by simp only [rmd]; omega) (Nat.zero_le _) (Nat.zero_le _) rfl hl.1 rfl (Nat.le_of_ble_eq_true rfl) dX3_readAnd_38 (fun H locs X => ?_)
  refine lv_aload_n C.1.1 C.1.2.1 dX3_readAnd_41 rfl (lv_at hl 0 rfl) ?_
  refine lv_aload_n C.1.1 C.1.2.1 dX3_readAnd_42 rfl (lv_at hl 1 rfl) ?_
  refine lv_iload_n C.1.1 C.1.2.1 dX3_readAnd_43 rfl (lv_at hl 2 rfl) ?_
  obtain ⟨q2, hq2, hF⟩ := bnd_some hF
  refine x_callV C X (k := 1) xv_X3_188 (rfl : xk 1 = 3) rfl rfl (by decide) (kX3_readNot O C.2.2.2.2.1 N hd0 KE k1 x2 (hk_k1 : xk k1 = 4) q1.2 q2 hq2) (by simp only [rmd]; omega) (by simp only [rmd]; omega) (Nat.zero_le _) (Nat.zero_le _) rfl hl.1 rfl (Nat.le_of_ble_eq_true rfl) dX3_readAnd_44 (fun H locs X => ?_)
  refine lv_aload_n C.1.1 C.1.2.1 dX3_readAnd_47 rfl (lv_at hl 1 rfl) ?_
  refine lv_sipush (v := 10012) C.1.1 C.1.2.1 dX3_readAnd_48 (by decide) ?_
  obtain ⟨q3, hq3, hF⟩ := bnd_some hF
  refine x_callV C X (k := k1) xv_X3_185 hk_k1 rfl rfl (by decide) (kX4_add O.1 C.2.2.2.2.1 N k1 10012 (hk_k1 : xk k1 = 4) q2.2 q3 hq3) (by simp only [rmd]; omega) (by simp only [rmd]; omega) (Nat.zero_le _) (Nat.zero_le _) rfl hl.1 rfl (Nat.le_of_ble_eq_true rfl) dX3_readAnd_51 (fun H locs X => ?_)
  refine lv_iinc (v := (x3 + 1 : Int32)) (lv' := [(3, .int ((x3 + 1 : Int32))), (0, .ref (g 1)), (1, .ref (g k1)), (2, .int x2)]) C.1.1 C.1.2.1 dX3_readAnd_54 hl (k := 3) rfl rfl (by decide) rfl (fun ls hl => ?_)
  refine lv_goto (tgt := 8) C.1.1 C.1.2.1 dX3_readAnd_57 (by decide) ?_
  exact K8 _ _ _ (hk_k1 : xk k1 = 4) _ _ _ _ X (lv_sub hl [1, 2, 3, 0] rfl) hF
noncomputable def fX3_readAnd_b22 (N : Nat) (rE : Nat → Int32 → gS → Option (Int32 × gS)) (r8 : Nat → Int32 → Int32 → gS → Option (Int32 × gS)) (k1 : Nat) (x2 : Int32) (x3 : Int32) (S : gS) : Option (Int32 × gS) := bnd (fX8_isAtWord N 16 S) fun q1 => (if q1.1 = 0 then fX3_readAnd_b60 N rE q1.2 else fX3_readAnd_b34 N rE r8 k1 x2 x3 q1.2)
theorem bX3_readAnd_22 {N : Nat} {rE : Nat → Int32 → gS → Option (Int32 × gS)} {d0 : Nat} {r8 : Nat → Int32 → Int32 → gS → Option (Int32 × gS)} {k1 : Nat} {x2 : Int32} {x3 : Int32} {S : gS} {H : Heap} {locs : List Loc} {ls : Array Slot} {o : Int32 × gS} (C : gC p s m args meth c cX3_readAnd 4 RX3 none D (xtys cI cB cZ cQ) xord g Am) (O : xsO g cI cB cZ cQ Am aK aV) (hd0 : 12 ≤ d0) (KE : ∀ (k1 : Nat) (hk_k1 : xk k1 = 4) (x : Int32) (S : gS) (o : Int32 × gS), rE k1 x S = some o → gM l yX3_readExpr cX3_readExpr 4 none d0 D (xtys cI cB cZ cQ) (xcell g cI cB cZ cQ) xord g Am [.ref (g 1), .ref (g k1), .int x] S none o.2) (K8 : ∀ (k1 : Nat) (x2 : Int32) (x3 : Int32) (hk_k1 : xk k1 = 4) (S : gS) (H : Heap) (locs : List Loc) (ls : Array Slot), gX D (xcell g cI cB cZ cQ) xord g S s H locs → lv_has ls 4 [(0, .ref (g 1)), (1, .ref (g k1)), (2, .int x2), (3, .int x3)] → r8 k1 x2 x3 S = some o → W p l e (rmd (d0 + 6)) s m args below meth c H locs 0 0 (gE below args s D (xtys cI cB cZ cQ) (xcell g cI cB cZ cQ) xord g none o.2) (F0 m 8 ls [])) (hk_k1 : xk k1 = 4) (X : gX D (xcell g cI cB cZ cQ) xord g S s H locs) (hl : lv_has ls 4 [(0, .ref (g 1)), (1, .ref (g k1)), (2, .int x2), (3, .int x3)]) (hF : fX3_readAnd_b22 N rE r8 k1 x2 x3 S = some o) : W p l e (rmd (d0 + 6)) s m args below meth c H locs 0 0 (gE below args s D (xtys cI cB cZ cQ) (xcell g cI cB cZ cQ) xord g none o.2) (F0 m 22 ls []) := by
  unfold fX3_readAnd_b22 at hF
  refine lv_aload_n C.1.1 C.1.2.1 dX3_readAnd_22 rfl (lv_at hl 0 rfl) ?_
  refine xg_X3_12 C O.1 X (k := 1) rfl (j := 2) rfl dX3_readAnd_23 ?_
  refine s_ldc C (xs_sO O) (i := 16) rfl dX3_readAnd_26 ?_
  obtain ⟨q1, hq1, hF⟩ := bnd_some hF
  refine x_callVi C X (k := 2) xv_X3_75 (rfl : xk 2 = 8) rfl rfl (by decide) (kX8_isAtWord O C.2.2.2.2.1 N 16 (rfl : sI 16 = true) S q1 hq1) (by simp only [rmd]; omega) (by simp only [rmd]; omega) (Nat.zero_le _) (Nat.zero_le _) rfl hl.1 rfl (Nat.le_of_ble_eq_true rfl) dX3_readAnd_28 (fun H locs X => ?_)
  refine lv_if_eq (tgt := 60) C.1.1 C.1.2.1 dX3_readAnd_31 (by decide) (fun h_z => ?_) (fun h_z => ?_)
  · rw [if_pos h_z] at hF
    exact bX3_readAnd_60 C O hd0 KE X (lv_sub hl [] rfl) hF
  · rw [if_neg h_z] at hF
    exact bX3_readAnd_34 C O hd0 KE K8 (hk_k1 : xk k1 = 4) X (lv_sub hl [0, 1, 2, 3] rfl) hF
noncomputable def fX3_readAnd_b15 (N : Nat) (rE : Nat → Int32 → gS → Option (Int32 × gS)) (r8 : Nat → Int32 → Int32 → gS → Option (Int32 × gS)) (k1 : Nat) (x2 : Int32) (x3 : Int32) (S : gS) : Option (Int32 × gS) := bnd (fX3_isFine N S) fun q1 => (if q1.1 = 0 then fX3_readAnd_b60 N rE q1.2 else fX3_readAnd_b22 N rE r8 k1 x2 x3 q1.2)
theorem bX3_readAnd_15 {N : Nat} {rE : Nat → Int32 → gS → Option (Int32 × gS)} {d0 : Nat} {r8 : Nat → Int32 → Int32 → gS → Option (Int32 × gS)} {k1 : Nat} {x2 : Int32} {x3 : Int32} {S : gS} {H : Heap} {locs : List Loc} {ls : Array Slot} {o : Int32 × gS} (C : gC p s m args meth c cX3_readAnd 4 RX3 none D (xtys cI cB cZ cQ) xord g Am) (O : xsO g cI cB cZ cQ Am aK aV) (hd0 : 12 ≤ d0) (KE : ∀ (k1 : Nat) (hk_k1 : xk k1 = 4) (x : Int32) (S : gS) (o : Int32 × gS), rE k1 x S = some o → gM l yX3_readExpr cX3_readExpr 4 none d0 D (xtys cI cB cZ cQ) (xcell g cI cB cZ cQ) xord g Am [.ref (g 1), .ref (g k1), .int x] S none o.2) (K8 : ∀ (k1 : Nat) (x2 : Int32) (x3 : Int32) (hk_k1 : xk k1 = 4) (S : gS) (H : Heap) (locs : List Loc) (ls : Array Slot), gX D (xcell g cI cB cZ cQ) xord g S s H locs → lv_has ls 4 [(0, .ref (g 1)), (1, .ref (g k1)), (2, .int x2), (3, .int x3)] → r8 k1 x2 x3 S = some o → W p l e (rmd (d0 + 6)) s m args below meth c H locs 0 0 (gE below args s D (xtys cI cB cZ cQ) (xcell g cI cB cZ cQ) xord g none o.2) (F0 m 8 ls [])) (hk_k1 : xk k1 = 4) (X : gX D (xcell g cI cB cZ cQ) xord g S s H locs) (hl : lv_has ls 4 [(0, .ref (g 1)), (1, .ref (g k1)), (2, .int x2), (3, .int x3)]) (hF : fX3_readAnd_b15 N rE r8 k1 x2 x3 S = some o) : W p l e (rmd (d0 + 6)) s m args below meth c H locs 0 0 (gE below args s D (xtys cI cB cZ cQ) (xcell g cI cB cZ cQ) xord g none o.2) (F0 m 15 ls []) := by
  unfold fX3_readAnd_b15 at hF
  refine lv_aload_n C.1.1 C.1.2.1 dX3_readAnd_15 rfl (lv_at hl 0 rfl) ?_
  obtain ⟨q1, hq1, hF⟩ := bnd_some hF
  refine x_callVi C X (k := 1) xv_X3_39 (rfl : xk 1 = 3) rfl rfl (by decide) (kX3_isFine O.1 C.2.2.2.2.1 N S q1 hq1) (by simp only [rmd]; omega) (by simp only [rmd]; omega) (Nat.zero_le _) (Nat.zero_le _) rfl hl.1 rfl (Nat.le_of_ble_eq_true rfl) dX3_readAnd_16 (fun H locs X => ?_)
  refine lv_if_eq (tgt := 60) C.1.1 C.1.2.1 dX3_readAnd_19 (by decide) (fun h_z => ?_) (fun h_z => ?_)
  · rw [if_pos h_z] at hF
    exact bX3_readAnd_60 C O hd0 KE X (lv_sub hl [] rfl) hF
  · rw [if_neg h_z] at hF
    exact bX3_readAnd_22 C O hd0 KE K8 (hk_k1 : xk k1 = 4) X (lv_sub hl [0, 1, 2, 3] rfl) hF
noncomputable def fX3_readAnd_b8 (N : Nat) (rE : Nat → Int32 → gS → Option (Int32 × gS)) (r8 : Nat → Int32 → Int32 → gS → Option (Int32 × gS)) (k1 : Nat) (x2 : Int32) (x3 : Int32) (S : gS) : Option (Int32 × gS) := if 700 ≤ x3 then fX3_readAnd_b60 N rE S else fX3_readAnd_b15 N rE r8 k1 x2 x3 S
theorem bX3_readAnd_8 {N : Nat} {rE : Nat → Int32 → gS → Option (Int32 × gS)} {d0 : Nat} {r8 : Nat → Int32 → Int32 → gS → Option (Int32 × gS)} {k1 : Nat} {x2 : Int32} {x3 : Int32} {S : gS} {H : Heap} {locs : List Loc} {ls : Array Slot} {o : Int32 × gS} (C : gC p s m args meth c cX3_readAnd 4 RX3 none D (xtys cI cB cZ cQ) xord g Am) (O : xsO g cI cB cZ cQ Am aK aV) (hd0 : 12 ≤ d0) (KE : ∀ (k1 : Nat) (hk_k1 : xk k1 = 4) (x : Int32) (S : gS) (o : Int32 × gS), rE k1 x S = some o → gM l yX3_readExpr cX3_readExpr 4 none d0 D (xtys cI cB cZ cQ) (xcell g cI cB cZ cQ) xord g Am [.ref (g 1), .ref (g k1), .int x] S none o.2) (K8 : ∀ (k1 : Nat) (x2 : Int32) (x3 : Int32) (hk_k1 : xk k1 = 4) (S : gS) (H : Heap) (locs : List Loc) (ls : Array Slot), gX D (xcell g cI cB cZ cQ) xord g S s H locs → lv_has ls 4 [(0, .ref (g 1)), (1, .ref (g k1)), (2, .int x2), (3, .int x3)] → r8 k1 x2 x3 S = some o → W p l e (rmd (d0 + 6)) s m args below meth c H locs 0 0 (gE below args s D (xtys cI cB cZ cQ) (xcell g cI cB cZ cQ) xord g none o.2) (F0 m 8 ls [])) (hk_k1 : xk k1 = 4) (X : gX D (xcell g cI cB cZ cQ) xord g S s H locs) (hl : lv_has ls 4 [(0, .ref (g 1)), (1, .ref (g k1)), (2, .int x2), (3, .int x3)]) (hF : fX3_readAnd_b8 N rE r8 k1 x2 x3 S = some o) : W p l e (rmd (d0 + 6)) s m args below meth c H locs 0 0 (gE below args s D (xtys cI cB cZ cQ) (xcell g cI cB cZ cQ) xord g none o.2) (F0 m 8 ls []) := by
  unfold fX3_readAnd_b8 at hF
  refine lv_iload_n C.1.1 C.1.2.1 dX3_readAnd_8 rfl (lv_at hl 3 rfl) ?_
  refine lv_sipush (v := 700) C.1.1 C.1.2.1 dX3_readAnd_9 (by decide) ?_
  refine lv_icmp_ge (tgt := 60) C.1.1 C.1.2.1 dX3_readAnd_12 (by decide) (fun h_z => ?_) (fun h_z => ?_)
  · rw [if_pos h_z] at hF
    exact bX3_readAnd_60 C O hd0 KE X (lv_sub hl [] rfl) hF
  · rw [if_neg h_z] at hF
    exact bX3_readAnd_15 C O hd0 KE K8 (hk_k1 : xk k1 = 4) X (lv_sub hl [0, 1, 2, 3] rfl) hF
noncomputable def fX3_readAnd_h8 (N : Nat) (rE : Nat → Int32 → gS → Option (Int32 × gS)) : Nat → Nat → Int32 → Int32 → gS → Option (Int32 × gS)
  | 0, _, _, _, _ => none
  | n + 1, k1, x2, x3, S => fX3_readAnd_b8 N rE (fX3_readAnd_h8 N rE n) k1 x2 x3 S
theorem hX3_readAnd_8 {N : Nat} {rE : Nat → Int32 → gS → Option (Int32 × gS)} {d0 : Nat} {o : Int32 × gS} (C : gC p s m args meth c cX3_readAnd 4 RX3 none D (xtys cI cB cZ cQ) xord g Am) (O : xsO g cI cB cZ cQ Am aK aV) (hd0 : 12 ≤ d0) (KE : ∀ (k1 : Nat) (hk_k1 : xk k1 = 4) (x : Int32) (S : gS) (o : Int32 × gS), rE k1 x S = some o → gM l yX3_readExpr cX3_readExpr 4 none d0 D (xtys cI cB cZ cQ) (xcell g cI cB cZ cQ) xord g Am [.ref (g 1), .ref (g k1), .int x] S none o.2) : ∀ (n : Nat) (k1 : Nat) (x2 : Int32) (x3 : Int32) (hk_k1 : xk k1 = 4) (S : gS) (H : Heap) (locs : List Loc) (ls : Array Slot), gX D (xcell g cI cB cZ cQ) xord g S s H locs → lv_has ls 4 [(0, .ref (g 1)), (1, .ref (g k1)), (2, .int x2), (3, .int x3)] → fX3_readAnd_h8 N rE n k1 x2 x3 S = some o → W p l e (rmd (d0 + 6)) s m args below meth c H locs 0 0 (gE below args s D (xtys cI cB cZ cQ) (xcell g cI cB cZ cQ) xord g none o.2) (F0 m 8 ls []) := by
  intro n
  induction n with
  | zero =>
    intro k1 x2 x3 hk_k1 S H locs ls X hl hF
    exact absurd (show (none : Option (Int32 × gS)) = some o from hF) (by simp)
  | succ n ih =>
    intro k1 x2 x3 hk_k1 S H locs ls X hl hF
    have hF : fX3_readAnd_b8 N rE (fX3_readAnd_h8 N rE n) k1 x2 x3 S = some o := hF
    exact bX3_readAnd_8 C O hd0 KE ih hk_k1 X hl hF
noncomputable def fX3_readAnd_b0 (N : Nat) (rE : Nat → Int32 → gS → Option (Int32 × gS)) (k1 : Nat) (x2 : Int32) (S : gS) : Option (Int32 × gS) := bnd (fX3_readNot N rE k1 x2 S) fun q1 => (fX3_readAnd_h8 N rE N k1 x2 0 q1.2)
theorem bX3_readAnd_0 {N : Nat} {rE : Nat → Int32 → gS → Option (Int32 × gS)} {d0 : Nat} {k1 : Nat} {x2 : Int32} {S : gS} {H : Heap} {locs : List Loc} {ls : Array Slot} {o : Int32 × gS} (C : gC p s m args meth c cX3_readAnd 4 RX3 none D (xtys cI cB cZ cQ) xord g Am) (O : xsO g cI cB cZ cQ Am aK aV) (hd0 : 12 ≤ d0) (KE : ∀ (k1 : Nat) (hk_k1 : xk k1 = 4) (x : Int32) (S : gS) (o : Int32 × gS), rE k1 x S = some o → gM l yX3_readExpr cX3_readExpr 4 none d0 D (xtys cI cB cZ cQ) (xcell g cI cB cZ cQ) xord g Am [.ref (g 1), .ref (g k1), .int x] S none o.2) (hk_k1 : xk k1 = 4) (X : gX D (xcell g cI cB cZ cQ) xord g S s H locs) (hl : lv_has ls 4 [(0, .ref (g 1)), (1, .ref (g k1)), (2, .int x2)]) (hF : fX3_readAnd_b0 N rE k1 x2 S = some o) : W p l e (rmd (d0 + 6)) s m args below meth c H locs 0 0 (gE below args s D (xtys cI cB cZ cQ) (xcell g cI cB cZ cQ) xord g none o.2) (F0 m 0 ls []) := by
  unfold fX3_readAnd_b0 at hF
  refine lv_aload_n C.1.1 C.1.2.1 dX3_readAnd_0 rfl (lv_at hl 0 rfl) ?_
  refine lv_aload_n C.1.1 C.1.2.1 dX3_readAnd_1 rfl (lv_at hl 1 rfl) ?_
  refine lv_iload_n C.1.1 C.1.2.1 dX3_readAnd_2 rfl (lv_at hl 2 rfl) ?_
  obtain ⟨q1, hq1, hF⟩ := bnd_some hF
  refine x_callV C X (k := 1) xv_X3_188 (rfl : xk 1 = 3) rfl rfl (by decide) (kX3_readNot O C.2.2.2.2.1 N hd0 KE k1 x2 (hk_k1 : xk k1 = 4) S q1 hq1) (by simp only [rmd]; omega) (by simp only [rmd]; omega) (Nat.zero_le _) (Nat.zero_le _) rfl hl.1 rfl (Nat.le_of_ble_eq_true rfl) dX3_readAnd_3 (fun H locs X => ?_)
  refine lv_iconst (v := 0) C.1.1 C.1.2.1 dX3_readAnd_6 (by decide) ?_
  refine lv_istore_n (lv' := [(3, .int 0), (0, .ref (g 1)), (1, .ref (g k1)), (2, .int x2)]) C.1.1 C.1.2.1 dX3_readAnd_7 rfl hl (by decide) rfl (fun ls hl => ?_)
  exact hX3_readAnd_8 C O hd0 KE N _ _ _ (hk_k1 : xk k1 = 4) _ _ _ _ X (lv_sub hl [1, 2, 3, 0] rfl) hF
noncomputable def fX3_readAnd (N : Nat) (rE : Nat → Int32 → gS → Option (Int32 × gS)) (k1 : Nat) (x2 : Int32) (S : gS) : Option (Int32 × gS) := fX3_readAnd_b0 N rE k1 x2 S
theorem kX3_readAnd {l : Launch} {D : va_G} {g : Nat → Nat} {cI cB cZ cQ : ClassId} {Am : (Nat → Prop) → State → Heap → Prop} {aK aV : Nat → Nat} (O : xsO g cI cB cZ cQ Am aK aV) (P : gAm Am) (N : Nat) {rE : Nat → Int32 → gS → Option (Int32 × gS)} {d0 : Nat} (hd0 : 12 ≤ d0) (KE : ∀ (k1 : Nat) (hk_k1 : xk k1 = 4) (x : Int32) (S : gS) (o : Int32 × gS), rE k1 x S = some o → gM l yX3_readExpr cX3_readExpr 4 none d0 D (xtys cI cB cZ cQ) (xcell g cI cB cZ cQ) xord g Am [.ref (g 1), .ref (g k1), .int x] S none o.2) (k1 : Nat) (x2 : Int32) (hk_k1 : xk k1 = 4) (S : gS) (o : Int32 × gS) (hF : fX3_readAnd N rE k1 x2 S = some o) : gM l yX3_readAnd cX3_readAnd 4 none (d0 + 6) D (xtys cI cB cZ cQ) (xcell g cI cB cZ cQ) xord g Am [.ref (g 1), .ref (g k1), .int x2] S none o.2 :=
  gM_of O.1.1 P (by decide) (Nat.le_of_ble_eq_true rfl) (fun p e s m args below meth c ls C X hl => bX3_readAnd_0 C O hd0 KE hk_k1 X (lv_sub hl [0, 1, 2] rfl) hF)
-- X3.readExpr
noncomputable def fX3_readExpr_b119 (N : Nat) (rE : Nat → Int32 → gS → Option (Int32 × gS)) (S : gS) : Option (Int32 × gS) := some (0, S)
theorem bX3_readExpr_119 {N : Nat} {rE : Nat → Int32 → gS → Option (Int32 × gS)} {d0 : Nat} {S : gS} {H : Heap} {locs : List Loc} {ls : Array Slot} {o : Int32 × gS} (C : gC p s m args meth c cX3_readExpr 4 RX3 none D (xtys cI cB cZ cQ) xord g Am) (O : xsO g cI cB cZ cQ Am aK aV) (hd0 : 12 ≤ d0) (KE : ∀ (k1 : Nat) (hk_k1 : xk k1 = 4) (x : Int32) (S : gS) (o : Int32 × gS), rE k1 x S = some o → gM l yX3_readExpr cX3_readExpr 4 none d0 D (xtys cI cB cZ cQ) (xcell g cI cB cZ cQ) xord g Am [.ref (g 1), .ref (g k1), .int x] S none o.2) (X : gX D (xcell g cI cB cZ cQ) xord g S s H locs) (hl : lv_has ls 4 []) (hF : fX3_readExpr_b119 N rE S = some o) : W p l e (rmd (d0 + 7)) s m args below meth c H locs 0 0 (gE below args s D (xtys cI cB cZ cQ) (xcell g cI cB cZ cQ) xord g none o.2) (F0 m 119 ls []) := by
  unfold fX3_readExpr_b119 at hF
  cases hF
  exact g_vret C X dX3_readExpr_119
noncomputable def fX3_readExpr_b93 (N : Nat) (rE : Nat → Int32 → gS → Option (Int32 × gS)) (r67 : Nat → Int32 → Int32 → gS → Option (Int32 × gS)) (k1 : Nat) (x2 : Int32) (x3 : Int32) (S : gS) : Option (Int32 × gS) := bnd (fX8_advance N S) fun q1 => (bnd (fX3_readAnd N rE k1 x2 q1.2) fun q2 => (bnd (fX4_add N k1 10011 q2.2) fun q3 => (r67 k1 x2 ((x3 + 1 : Int32)) q3.2)))
theorem bX3_readExpr_93 {N : Nat} {rE : Nat → Int32 → gS → Option (Int32 × gS)} {d0 : Nat} {r67 : Nat → Int32 → Int32 → gS → Option (Int32 × gS)} {k1 : Nat} {x2 : Int32} {x3 : Int32} {S : gS} {H : Heap} {locs : List Loc} {ls : Array Slot} {o : Int32 × gS} (C : gC p s m args meth c cX3_readExpr 4 RX3 none D (xtys cI cB cZ cQ) xord g Am) (O : xsO g cI cB cZ cQ Am aK aV) (hd0 : 12 ≤ d0) (KE : ∀ (k1 : Nat) (hk_k1 : xk k1 = 4) (x : Int32) (S : gS) (o : Int32 × gS), rE k1 x S = some o → gM l yX3_readExpr cX3_readExpr 4 none d0 D (xtys cI cB cZ cQ) (xcell g cI cB cZ cQ) xord g Am [.ref (g 1), .ref (g k1), .int x] S none o.2) (K67 : ∀ (k1 : Nat) (x2 : Int32) (x3 : Int32) (hk_k1 : xk k1 = 4) (S : gS) (H : Heap) (locs : List Loc) (ls : Array Slot), gX D (xcell g cI cB cZ cQ) xord g S s H locs → lv_has ls 4 [(0, .ref (g 1)), (1, .ref (g k1)), (2, .int x2), (3, .int x3)] → r67 k1 x2 x3 S = some o → W p l e (rmd (d0 + 7)) s m args below meth c H locs 0 0 (gE below args s D (xtys cI cB cZ cQ) (xcell g cI cB cZ cQ) xord g none o.2) (F0 m 67 ls [])) (hk_k1 : xk k1 = 4) (X : gX D (xcell g cI cB cZ cQ) xord g S s H locs) (hl : lv_has ls 4 [(0, .ref (g 1)), (1, .ref (g k1)), (2, .int x2), (3, .int x3)]) (hF : fX3_readExpr_b93 N rE r67 k1 x2 x3 S = some o) : W p l e (rmd (d0 + 7)) s m args below meth c H locs 0 0 (gE below args s D (xtys cI cB cZ cQ) (xcell g cI cB cZ cQ) xord g none o.2) (F0 m 93 ls []) := by
  unfold fX3_readExpr_b93 at hF
  refine lv_aload_n C.1.1 C.1.2.1 dX3_readExpr_93 rfl (lv_at hl 0 rfl) ?_
  refine xg_X3_12 C O.1 X (k := 1) rfl (j := 2) rfl dX3_readExpr_94 ?_
  obtain ⟨q1, hq1, hF⟩ := bnd_some hF
  refine x_callV C X (k := 2) xv_X3_63 (rfl : xk 2 = 8) rfl rfl (by decide) (kX8_advance O C.2.2.2.2.1 N S q1 hq1) (by simp only [rmd]; omega) (by simp only [rmd]; omega) (Nat.zero_le _) (Nat.zero_le _) rfl hl.1 rfl (Nat.le_of_ble_eq_true rfl) dX3_readExpr_97 (fun H locs X => ?_)
  refine lv_aload_n C.1.1 C.1.2.1 dX3_readExpr_100 rfl (lv_at hl 0 rfl) ?_
  refine lv_aload_n C.1.1 C.1.2.1 dX3_readExpr_101 rfl (lv_at hl 1 rfl) ?_
  refine lv_iload_n C.1.1 C.1.2.1 dX3_readExpr_102 rfl (lv_at hl 2 rfl) ?_
  obtain ⟨q2, hq2, hF⟩ := bnd_some hF
  refine x_callV C X (k := 1) xv_X3_180 (rfl : xk 1 = 3) rfl rfl (by decide) (kX3_readAnd O C.2.2.2.2.1 N hd0 KE k1 x2 (hk_k1 : xk k1 = 4) q1.2 q2 hq2) (by simp only [rmd]; omega) (by simp only [rmd]; omega) (Nat.zero_le _) (Nat.zero_le _) rfl hl.1 rfl (Nat.le_of_ble_eq_true rfl) dX3_readExpr_103 (fun H locs X => ?_)
  refine lv_aload_n C.1.1 C.1.2.1 dX3_readExpr_106 rfl (lv_at hl 1 rfl) ?_
  refine lv_sipush (v := 10011) C.1.1 C.1.2.1 dX3_readExpr_107 (by decide) ?_
  obtain ⟨q3, hq3, hF⟩ := bnd_some hF
  refine x_callV C X (k := k1) xv_X3_185 hk_k1 rfl rfl (by decide) (kX4_add O.1 C.2.2.2.2.1 N k1 10011 (hk_k1 : xk k1 = 4) q2.2 q3 hq3) (by simp only [rmd]; omega) (by simp only [rmd]; omega) (Nat.zero_le _) (Nat.zero_le _) rfl hl.1 rfl (Nat.le_of_ble_eq_true rfl) dX3_readExpr_110 (fun H locs X => ?_)
  refine lv_iinc (v := (x3 + 1 : Int32)) (lv' := [(3, .int ((x3 + 1 : Int32))), (0, .ref (g 1)), (1, .ref (g k1)), (2, .int x2)]) C.1.1 C.1.2.1 dX3_readExpr_113 hl (k := 3) rfl rfl (by decide) rfl (fun ls hl => ?_)
  refine lv_goto (tgt := 67) C.1.1 C.1.2.1 dX3_readExpr_116 (by decide) ?_
  exact K67 _ _ _ (hk_k1 : xk k1 = 4) _ _ _ _ X (lv_sub hl [1, 2, 3, 0] rfl) hF
noncomputable def fX3_readExpr_b81 (N : Nat) (rE : Nat → Int32 → gS → Option (Int32 × gS)) (r67 : Nat → Int32 → Int32 → gS → Option (Int32 × gS)) (k1 : Nat) (x2 : Int32) (x3 : Int32) (S : gS) : Option (Int32 × gS) := bnd (fX8_isAtWord N 17 S) fun q1 => (if q1.1 = 0 then fX3_readExpr_b119 N rE q1.2 else fX3_readExpr_b93 N rE r67 k1 x2 x3 q1.2)
theorem bX3_readExpr_81 {N : Nat} {rE : Nat → Int32 → gS → Option (Int32 × gS)} {d0 : Nat} {r67 : Nat → Int32 → Int32 → gS → Option (Int32 × gS)} {k1 : Nat} {x2 : Int32} {x3 : Int32} {S : gS} {H : Heap} {locs : List Loc} {ls : Array Slot} {o : Int32 × gS} (C : gC p s m args meth c cX3_readExpr 4 RX3 none D (xtys cI cB cZ cQ) xord g Am) (O : xsO g cI cB cZ cQ Am aK aV) (hd0 : 12 ≤ d0) (KE : ∀ (k1 : Nat) (hk_k1 : xk k1 = 4) (x : Int32) (S : gS) (o : Int32 × gS), rE k1 x S = some o → gM l yX3_readExpr cX3_readExpr 4 none d0 D (xtys cI cB cZ cQ) (xcell g cI cB cZ cQ) xord g Am [.ref (g 1), .ref (g k1), .int x] S none o.2) (K67 : ∀ (k1 : Nat) (x2 : Int32) (x3 : Int32) (hk_k1 : xk k1 = 4) (S : gS) (H : Heap) (locs : List Loc) (ls : Array Slot), gX D (xcell g cI cB cZ cQ) xord g S s H locs → lv_has ls 4 [(0, .ref (g 1)), (1, .ref (g k1)), (2, .int x2), (3, .int x3)] → r67 k1 x2 x3 S = some o → W p l e (rmd (d0 + 7)) s m args below meth c H locs 0 0 (gE below args s D (xtys cI cB cZ cQ) (xcell g cI cB cZ cQ) xord g none o.2) (F0 m 67 ls [])) (hk_k1 : xk k1 = 4) (X : gX D (xcell g cI cB cZ cQ) xord g S s H locs) (hl : lv_has ls 4 [(0, .ref (g 1)), (1, .ref (g k1)), (2, .int x2), (3, .int x3)]) (hF : fX3_readExpr_b81 N rE r67 k1 x2 x3 S = some o) : W p l e (rmd (d0 + 7)) s m args below meth c H locs 0 0 (gE below args s D (xtys cI cB cZ cQ) (xcell g cI cB cZ cQ) xord g none o.2) (F0 m 81 ls []) := by
  unfold fX3_readExpr_b81 at hF
  refine lv_aload_n C.1.1 C.1.2.1 dX3_readExpr_81 rfl (lv_at hl 0 rfl) ?_
  refine xg_X3_12 C O.1 X (k := 1) rfl (j := 2) rfl dX3_readExpr_82 ?_
  refine s_ldc C (xs_sO O) (i := 17) rfl dX3_readExpr_85 ?_
  obtain ⟨q1, hq1, hF⟩ := bnd_some hF
  refine x_callVi C X (k := 2) xv_X3_75 (rfl : xk 2 = 8) rfl rfl (by decide) (kX8_isAtWord O C.2.2.2.2.1 N 17 (rfl : sI 17 = true) S q1 hq1) (by simp only [rmd]; omega) (by simp only [rmd]; omega) (Nat.zero_le _) (Nat.zero_le _) rfl hl.1 rfl (Nat.le_of_ble_eq_true rfl) dX3_readExpr_87 (fun H locs X => ?_)
  refine lv_if_eq (tgt := 119) C.1.1 C.1.2.1 dX3_readExpr_90 (by decide) (fun h_z => ?_) (fun h_z => ?_)
  · rw [if_pos h_z] at hF
    exact bX3_readExpr_119 C O hd0 KE X (lv_sub hl [] rfl) hF
  · rw [if_neg h_z] at hF
    exact bX3_readExpr_93 C O hd0 KE K67 (hk_k1 : xk k1 = 4) X (lv_sub hl [0, 1, 2, 3] rfl) hF
noncomputable def fX3_readExpr_b74 (N : Nat) (rE : Nat → Int32 → gS → Option (Int32 × gS)) (r67 : Nat → Int32 → Int32 → gS → Option (Int32 × gS)) (k1 : Nat) (x2 : Int32) (x3 : Int32) (S : gS) : Option (Int32 × gS) := bnd (fX3_isFine N S) fun q1 => (if q1.1 = 0 then fX3_readExpr_b119 N rE q1.2 else fX3_readExpr_b81 N rE r67 k1 x2 x3 q1.2)
theorem bX3_readExpr_74 {N : Nat} {rE : Nat → Int32 → gS → Option (Int32 × gS)} {d0 : Nat} {r67 : Nat → Int32 → Int32 → gS → Option (Int32 × gS)} {k1 : Nat} {x2 : Int32} {x3 : Int32} {S : gS} {H : Heap} {locs : List Loc} {ls : Array Slot} {o : Int32 × gS} (C : gC p s m args meth c cX3_readExpr 4 RX3 none D (xtys cI cB cZ cQ) xord g Am) (O : xsO g cI cB cZ cQ Am aK aV) (hd0 : 12 ≤ d0) (KE : ∀ (k1 : Nat) (hk_k1 : xk k1 = 4) (x : Int32) (S : gS) (o : Int32 × gS), rE k1 x S = some o → gM l yX3_readExpr cX3_readExpr 4 none d0 D (xtys cI cB cZ cQ) (xcell g cI cB cZ cQ) xord g Am [.ref (g 1), .ref (g k1), .int x] S none o.2) (K67 : ∀ (k1 : Nat) (x2 : Int32) (x3 : Int32) (hk_k1 : xk k1 = 4) (S : gS) (H : Heap) (locs : List Loc) (ls : Array Slot), gX D (xcell g cI cB cZ cQ) xord g S s H locs → lv_has ls 4 [(0, .ref (g 1)), (1, .ref (g k1)), (2, .int x2), (3, .int x3)] → r67 k1 x2 x3 S = some o → W p l e (rmd (d0 + 7)) s m args below meth c H locs 0 0 (gE below args s D (xtys cI cB cZ cQ) (xcell g cI cB cZ cQ) xord g none o.2) (F0 m 67 ls [])) (hk_k1 : xk k1 = 4) (X : gX D (xcell g cI cB cZ cQ) xord g S s H locs) (hl : lv_has ls 4 [(0, .ref (g 1)), (1, .ref (g k1)), (2, .int x2), (3, .int x3)]) (hF : fX3_readExpr_b74 N rE r67 k1 x2 x3 S = some o) : W p l e (rmd (d0 + 7)) s m args below meth c H locs 0 0 (gE below args s D (xtys cI cB cZ cQ) (xcell g cI cB cZ cQ) xord g none o.2) (F0 m 74 ls []) := by
  unfold fX3_readExpr_b74 at hF
  refine lv_aload_n C.1.1 C.1.2.1 dX3_readExpr_74 rfl (lv_at hl 0 rfl) ?_
  obtain ⟨q1, hq1, hF⟩ := bnd_some hF
  refine x_callVi C X (k := 1) xv_X3_39 (rfl : xk 1 = 3) rfl rfl (by decide) (kX3_isFine O.1 C.2.2.2.2.1 N S q1 hq1) (by simp only [rmd]; omega) (by simp only [rmd]; omega) (Nat.zero_le _) (Nat.zero_le _) rfl hl.1 rfl (Nat.le_of_ble_eq_true rfl) dX3_readExpr_75 (fun H locs X => ?_)
  refine lv_if_eq (tgt := 119) C.1.1 C.1.2.1 dX3_readExpr_78 (by decide) (fun h_z => ?_) (fun h_z => ?_)
  · rw [if_pos h_z] at hF
    exact bX3_readExpr_119 C O hd0 KE X (lv_sub hl [] rfl) hF
  · rw [if_neg h_z] at hF
    exact bX3_readExpr_81 C O hd0 KE K67 (hk_k1 : xk k1 = 4) X (lv_sub hl [0, 1, 2, 3] rfl) hF
noncomputable def fX3_readExpr_b67 (N : Nat) (rE : Nat → Int32 → gS → Option (Int32 × gS)) (r67 : Nat → Int32 → Int32 → gS → Option (Int32 × gS)) (k1 : Nat) (x2 : Int32) (x3 : Int32) (S : gS) : Option (Int32 × gS) := if 700 ≤ x3 then fX3_readExpr_b119 N rE S else fX3_readExpr_b74 N rE r67 k1 x2 x3 S
theorem bX3_readExpr_67 {N : Nat} {rE : Nat → Int32 → gS → Option (Int32 × gS)} {d0 : Nat} {r67 : Nat → Int32 → Int32 → gS → Option (Int32 × gS)} {k1 : Nat} {x2 : Int32} {x3 : Int32} {S : gS} {H : Heap} {locs : List Loc} {ls : Array Slot} {o : Int32 × gS} (C : gC p s m args meth c cX3_readExpr 4 RX3 none D (xtys cI cB cZ cQ) xord g Am) (O : xsO g cI cB cZ cQ Am aK aV) (hd0 : 12 ≤ d0) (KE : ∀ (k1 : Nat) (hk_k1 : xk k1 = 4) (x : Int32) (S : gS) (o : Int32 × gS), rE k1 x S = some o → gM l yX3_readExpr cX3_readExpr 4 none d0 D (xtys cI cB cZ cQ) (xcell g cI cB cZ cQ) xord g Am [.ref (g 1), .ref (g k1), .int x] S none o.2) (K67 : ∀ (k1 : Nat) (x2 : Int32) (x3 : Int32) (hk_k1 : xk k1 = 4) (S : gS) (H : Heap) (locs : List Loc) (ls : Array Slot), gX D (xcell g cI cB cZ cQ) xord g S s H locs → lv_has ls 4 [(0, .ref (g 1)), (1, .ref (g k1)), (2, .int x2), (3, .int x3)] → r67 k1 x2 x3 S = some o → W p l e (rmd (d0 + 7)) s m args below meth c H locs 0 0 (gE below args s D (xtys cI cB cZ cQ) (xcell g cI cB cZ cQ) xord g none o.2) (F0 m 67 ls [])) (hk_k1 : xk k1 = 4) (X : gX D (xcell g cI cB cZ cQ) xord g S s H locs) (hl : lv_has ls 4 [(0, .ref (g 1)), (1, .ref (g k1)), (2, .int x2), (3, .int x3)]) (hF : fX3_readExpr_b67 N rE r67 k1 x2 x3 S = some o) : W p l e (rmd (d0 + 7)) s m args below meth c H locs 0 0 (gE below args s D (xtys cI cB cZ cQ) (xcell g cI cB cZ cQ) xord g none o.2) (F0 m 67 ls []) := by
  unfold fX3_readExpr_b67 at hF
  refine lv_iload_n C.1.1 C.1.2.1 dX3_readExpr_67 rfl (lv_at hl 3 rfl) ?_
  refine lv_sipush (v := 700) C.1.1 C.1.2.1 dX3_readExpr_68 (by decide) ?_
  refine lv_icmp_ge (tgt := 119) C.1.1 C.1.2.1 dX3_readExpr_71 (by decide) (fun h_z => ?_) (fun h_z => ?_)
  · rw [if_pos h_z] at hF
    exact bX3_readExpr_119 C O hd0 KE X (lv_sub hl [] rfl) hF
  · rw [if_neg h_z] at hF
    exact bX3_readExpr_74 C O hd0 KE K67 (hk_k1 : xk k1 = 4) X (lv_sub hl [0, 1, 2, 3] rfl) hF
noncomputable def fX3_readExpr_h67 (N : Nat) (rE : Nat → Int32 → gS → Option (Int32 × gS)) : Nat → Nat → Int32 → Int32 → gS → Option (Int32 × gS)
  | 0, _, _, _, _ => none
  | n + 1, k1, x2, x3, S => fX3_readExpr_b67 N rE (fX3_readExpr_h67 N rE n) k1 x2 x3 S
theorem hX3_readExpr_67 {N : Nat} {rE : Nat → Int32 → gS → Option (Int32 × gS)} {d0 : Nat} {o : Int32 × gS} (C : gC p s m args meth c cX3_readExpr 4 RX3 none D (xtys cI cB cZ cQ) xord g Am) (O : xsO g cI cB cZ cQ Am aK aV) (hd0 : 12 ≤ d0) (KE : ∀ (k1 : Nat) (hk_k1 : xk k1 = 4) (x : Int32) (S : gS) (o : Int32 × gS), rE k1 x S = some o → gM l yX3_readExpr cX3_readExpr 4 none d0 D (xtys cI cB cZ cQ) (xcell g cI cB cZ cQ) xord g Am [.ref (g 1), .ref (g k1), .int x] S none o.2) : ∀ (n : Nat) (k1 : Nat) (x2 : Int32) (x3 : Int32) (hk_k1 : xk k1 = 4) (S : gS) (H : Heap) (locs : List Loc) (ls : Array Slot), gX D (xcell g cI cB cZ cQ) xord g S s H locs → lv_has ls 4 [(0, .ref (g 1)), (1, .ref (g k1)), (2, .int x2), (3, .int x3)] → fX3_readExpr_h67 N rE n k1 x2 x3 S = some o → W p l e (rmd (d0 + 7)) s m args below meth c H locs 0 0 (gE below args s D (xtys cI cB cZ cQ) (xcell g cI cB cZ cQ) xord g none o.2) (F0 m 67 ls []) := by
  intro n
  induction n with
  | zero =>
    intro k1 x2 x3 hk_k1 S H locs ls X hl hF
    exact absurd (show (none : Option (Int32 × gS)) = some o from hF) (by simp)
  | succ n ih =>
    intro k1 x2 x3 hk_k1 S H locs ls X hl hF
    have hF : fX3_readExpr_b67 N rE (fX3_readExpr_h67 N rE n) k1 x2 x3 S = some o := hF
    exact bX3_readExpr_67 C O hd0 KE ih hk_k1 X hl hF
noncomputable def fX3_readExpr_b59 (N : Nat) (rE : Nat → Int32 → gS → Option (Int32 × gS)) (k1 : Nat) (x2 : Int32) (S : gS) : Option (Int32 × gS) := bnd (fX3_readAnd N rE k1 x2 S) fun q1 => (fX3_readExpr_h67 N rE N k1 x2 0 q1.2)
theorem bX3_readExpr_59 {N : Nat} {rE : Nat → Int32 → gS → Option (Int32 × gS)} {d0 : Nat} {k1 : Nat} {x2 : Int32} {S : gS} {H : Heap} {locs : List Loc} {ls : Array Slot} {o : Int32 × gS} (C : gC p s m args meth c cX3_readExpr 4 RX3 none D (xtys cI cB cZ cQ) xord g Am) (O : xsO g cI cB cZ cQ Am aK aV) (hd0 : 12 ≤ d0) (KE : ∀ (k1 : Nat) (hk_k1 : xk k1 = 4) (x : Int32) (S : gS) (o : Int32 × gS), rE k1 x S = some o → gM l yX3_readExpr cX3_readExpr 4 none d0 D (xtys cI cB cZ cQ) (xcell g cI cB cZ cQ) xord g Am [.ref (g 1), .ref (g k1), .int x] S none o.2) (hk_k1 : xk k1 = 4) (X : gX D (xcell g cI cB cZ cQ) xord g S s H locs) (hl : lv_has ls 4 [(0, .ref (g 1)), (1, .ref (g k1)), (2, .int x2)]) (hF : fX3_readExpr_b59 N rE k1 x2 S = some o) : W p l e (rmd (d0 + 7)) s m args below meth c H locs 0 0 (gE below args s D (xtys cI cB cZ cQ) (xcell g cI cB cZ cQ) xord g none o.2) (F0 m 59 ls []) := by
  unfold fX3_readExpr_b59 at hF
  refine lv_aload_n C.1.1 C.1.2.1 dX3_readExpr_59 rfl (lv_at hl 0 rfl) ?_
  refine lv_aload_n C.1.1 C.1.2.1 dX3_readExpr_60 rfl (lv_at hl 1 rfl) ?_
  refine lv_iload_n C.1.1 C.1.2.1 dX3_readExpr_61 rfl (lv_at hl 2 rfl) ?_
  obtain ⟨q1, hq1, hF⟩ := bnd_some hF
  refine x_callV C X (k := 1) xv_X3_180 (rfl : xk 1 = 3) rfl rfl (by decide) (kX3_readAnd O C.2.2.2.2.1 N hd0 KE k1 x2 (hk_k1 : xk k1 = 4) S q1 hq1) (by simp only [rmd]; omega) (by simp only [rmd]; omega) (Nat.zero_le _) (Nat.zero_le _) rfl hl.1 rfl (Nat.le_of_ble_eq_true rfl) dX3_readExpr_62 (fun H locs X => ?_)
  refine lv_iconst (v := 0) C.1.1 C.1.2.1 dX3_readExpr_65 (by decide) ?_
  refine lv_istore_n (lv' := [(3, .int 0), (0, .ref (g 1)), (1, .ref (g k1)), (2, .int x2)]) C.1.1 C.1.2.1 dX3_readExpr_66 rfl hl (by decide) rfl (fun ls hl => ?_)
  exact hX3_readExpr_67 C O hd0 KE N _ _ _ (hk_k1 : xk k1 = 4) _ _ _ _ X (lv_sub hl [1, 2, 3, 0] rfl) hF
noncomputable def fX3_readExpr_b55 (N : Nat) (rE : Nat → Int32 → gS → Option (Int32 × gS)) (t1 : Int32) (S : gS) : Option (Int32 × gS) := bnd (fX3_refuse N t1 S) fun q1 => (some (0, q1.2))
theorem bX3_readExpr_55 {N : Nat} {rE : Nat → Int32 → gS → Option (Int32 × gS)} {d0 : Nat} {t1 : Int32} {S : gS} {H : Heap} {locs : List Loc} {ls : Array Slot} {o : Int32 × gS} (C : gC p s m args meth c cX3_readExpr 4 RX3 none D (xtys cI cB cZ cQ) xord g Am) (O : xsO g cI cB cZ cQ Am aK aV) (hd0 : 12 ≤ d0) (KE : ∀ (k1 : Nat) (hk_k1 : xk k1 = 4) (x : Int32) (S : gS) (o : Int32 × gS), rE k1 x S = some o → gM l yX3_readExpr cX3_readExpr 4 none d0 D (xtys cI cB cZ cQ) (xcell g cI cB cZ cQ) xord g Am [.ref (g 1), .ref (g k1), .int x] S none o.2) (X : gX D (xcell g cI cB cZ cQ) xord g S s H locs) (hl : lv_has ls 4 []) (hF : fX3_readExpr_b55 N rE t1 S = some o) : W p l e (rmd (d0 + 7)) s m args below meth c H locs 0 0 (gE below args s D (xtys cI cB cZ cQ) (xcell g cI cB cZ cQ) xord g none o.2) (F0 m 55 ls [.int t1, .ref (g 1)]) := by
  unfold fX3_readExpr_b55 at hF
  obtain ⟨q1, hq1, hF⟩ := bnd_some hF
  refine x_callV C X (k := 1) xv_X3_60 (rfl : xk 1 = 3) rfl rfl (by decide) (kX3_refuse O.1 C.2.2.2.2.1 N t1 S q1 hq1) (by simp only [rmd]; omega) (by simp only [rmd]; omega) (Nat.zero_le _) (Nat.zero_le _) rfl hl.1 rfl (Nat.le_of_ble_eq_true rfl) dX3_readExpr_55 (fun H locs X => ?_)
  cases hF
  exact g_vret C X dX3_readExpr_58
noncomputable def fX3_readExpr_b54 (N : Nat) (rE : Nat → Int32 → gS → Option (Int32 × gS)) (S : gS) : Option (Int32 × gS) := fX3_readExpr_b55 N rE 1 S
theorem bX3_readExpr_54 {N : Nat} {rE : Nat → Int32 → gS → Option (Int32 × gS)} {d0 : Nat} {S : gS} {H : Heap} {locs : List Loc} {ls : Array Slot} {o : Int32 × gS} (C : gC p s m args meth c cX3_readExpr 4 RX3 none D (xtys cI cB cZ cQ) xord g Am) (O : xsO g cI cB cZ cQ Am aK aV) (hd0 : 12 ≤ d0) (KE : ∀ (k1 : Nat) (hk_k1 : xk k1 = 4) (x : Int32) (S : gS) (o : Int32 × gS), rE k1 x S = some o → gM l yX3_readExpr cX3_readExpr 4 none d0 D (xtys cI cB cZ cQ) (xcell g cI cB cZ cQ) xord g Am [.ref (g 1), .ref (g k1), .int x] S none o.2) (X : gX D (xcell g cI cB cZ cQ) xord g S s H locs) (hl : lv_has ls 4 []) (hF : fX3_readExpr_b54 N rE S = some o) : W p l e (rmd (d0 + 7)) s m args below meth c H locs 0 0 (gE below args s D (xtys cI cB cZ cQ) (xcell g cI cB cZ cQ) xord g none o.2) (F0 m 54 ls [.ref (g 1)]) := by
  unfold fX3_readExpr_b54 at hF
  refine lv_iconst (v := 1) C.1.1 C.1.2.1 dX3_readExpr_54 (by decide) ?_
  exact bX3_readExpr_55 C O hd0 KE X (lv_sub hl [] rfl) hF
noncomputable def fX3_readExpr_b50 (N : Nat) (rE : Nat → Int32 → gS → Option (Int32 × gS)) (S : gS) : Option (Int32 × gS) := fX3_readExpr_b55 N rE 2 S
theorem bX3_readExpr_50 {N : Nat} {rE : Nat → Int32 → gS → Option (Int32 × gS)} {d0 : Nat} {S : gS} {H : Heap} {locs : List Loc} {ls : Array Slot} {o : Int32 × gS} (C : gC p s m args meth c cX3_readExpr 4 RX3 none D (xtys cI cB cZ cQ) xord g Am) (O : xsO g cI cB cZ cQ Am aK aV) (hd0 : 12 ≤ d0) (KE : ∀ (k1 : Nat) (hk_k1 : xk k1 = 4) (x : Int32) (S : gS) (o : Int32 × gS), rE k1 x S = some o → gM l yX3_readExpr cX3_readExpr 4 none d0 D (xtys cI cB cZ cQ) (xcell g cI cB cZ cQ) xord g Am [.ref (g 1), .ref (g k1), .int x] S none o.2) (X : gX D (xcell g cI cB cZ cQ) xord g S s H locs) (hl : lv_has ls 4 []) (hF : fX3_readExpr_b50 N rE S = some o) : W p l e (rmd (d0 + 7)) s m args below meth c H locs 0 0 (gE below args s D (xtys cI cB cZ cQ) (xcell g cI cB cZ cQ) xord g none o.2) (F0 m 50 ls [.ref (g 1)]) := by
  unfold fX3_readExpr_b50 at hF
  refine lv_iconst (v := 2) C.1.1 C.1.2.1 dX3_readExpr_50 (by decide) ?_
  refine lv_goto (tgt := 55) C.1.1 C.1.2.1 dX3_readExpr_51 (by decide) ?_
  exact bX3_readExpr_55 C O hd0 KE X (lv_sub hl [] rfl) hF
noncomputable def fX3_readExpr_b44 (N : Nat) (rE : Nat → Int32 → gS → Option (Int32 × gS)) (t0 : Int32) (S : gS) : Option (Int32 × gS) := if t0 = 0 then fX3_readExpr_b54 N rE S else fX3_readExpr_b50 N rE S
theorem bX3_readExpr_44 {N : Nat} {rE : Nat → Int32 → gS → Option (Int32 × gS)} {d0 : Nat} {t0 : Int32} {S : gS} {H : Heap} {locs : List Loc} {ls : Array Slot} {o : Int32 × gS} (C : gC p s m args meth c cX3_readExpr 4 RX3 none D (xtys cI cB cZ cQ) xord g Am) (O : xsO g cI cB cZ cQ Am aK aV) (hd0 : 12 ≤ d0) (KE : ∀ (k1 : Nat) (hk_k1 : xk k1 = 4) (x : Int32) (S : gS) (o : Int32 × gS), rE k1 x S = some o → gM l yX3_readExpr cX3_readExpr 4 none d0 D (xtys cI cB cZ cQ) (xcell g cI cB cZ cQ) xord g Am [.ref (g 1), .ref (g k1), .int x] S none o.2) (X : gX D (xcell g cI cB cZ cQ) xord g S s H locs) (hl : lv_has ls 4 [(0, .ref (g 1))]) (hF : fX3_readExpr_b44 N rE t0 S = some o) : W p l e (rmd (d0 + 7)) s m args below meth c H locs 0 0 (gE below args s D (xtys cI cB cZ cQ) (xcell g cI cB cZ cQ) xord g none o.2) (F0 m 44 ls [.int t0]) := by
  unfold fX3_readExpr_b44 at hF
  refine lv_istore_n (lv' := [(3, .int t0), (0, .ref (g 1))]) C.1.1 C.1.2.1 dX3_readExpr_44 rfl hl (by decide) rfl (fun ls hl => ?_)
  refine lv_aload_n C.1.1 C.1.2.1 dX3_readExpr_45 rfl (lv_at hl 1 rfl) ?_
  refine lv_iload_n C.1.1 C.1.2.1 dX3_readExpr_46 rfl (lv_at hl 0 rfl) ?_
  refine lv_if_eq (tgt := 54) C.1.1 C.1.2.1 dX3_readExpr_47 (by decide) (fun h_z => ?_) (fun h_z => ?_)
  · rw [if_pos h_z] at hF
    exact bX3_readExpr_54 C O hd0 KE X (lv_sub hl [] rfl) hF
  · rw [if_neg h_z] at hF
    exact bX3_readExpr_50 C O hd0 KE X (lv_sub hl [] rfl) hF
noncomputable def fX3_readExpr_b43 (N : Nat) (rE : Nat → Int32 → gS → Option (Int32 × gS)) (S : gS) : Option (Int32 × gS) := fX3_readExpr_b44 N rE 0 S
theorem bX3_readExpr_43 {N : Nat} {rE : Nat → Int32 → gS → Option (Int32 × gS)} {d0 : Nat} {S : gS} {H : Heap} {locs : List Loc} {ls : Array Slot} {o : Int32 × gS} (C : gC p s m args meth c cX3_readExpr 4 RX3 none D (xtys cI cB cZ cQ) xord g Am) (O : xsO g cI cB cZ cQ Am aK aV) (hd0 : 12 ≤ d0) (KE : ∀ (k1 : Nat) (hk_k1 : xk k1 = 4) (x : Int32) (S : gS) (o : Int32 × gS), rE k1 x S = some o → gM l yX3_readExpr cX3_readExpr 4 none d0 D (xtys cI cB cZ cQ) (xcell g cI cB cZ cQ) xord g Am [.ref (g 1), .ref (g k1), .int x] S none o.2) (X : gX D (xcell g cI cB cZ cQ) xord g S s H locs) (hl : lv_has ls 4 [(0, .ref (g 1))]) (hF : fX3_readExpr_b43 N rE S = some o) : W p l e (rmd (d0 + 7)) s m args below meth c H locs 0 0 (gE below args s D (xtys cI cB cZ cQ) (xcell g cI cB cZ cQ) xord g none o.2) (F0 m 43 ls []) := by
  unfold fX3_readExpr_b43 at hF
  refine lv_iconst (v := 0) C.1.1 C.1.2.1 dX3_readExpr_43 (by decide) ?_
  exact bX3_readExpr_44 C O hd0 KE X (lv_sub hl [0] rfl) hF
noncomputable def fX3_readExpr_b39 (N : Nat) (rE : Nat → Int32 → gS → Option (Int32 × gS)) (S : gS) : Option (Int32 × gS) := fX3_readExpr_b44 N rE 1 S
theorem bX3_readExpr_39 {N : Nat} {rE : Nat → Int32 → gS → Option (Int32 × gS)} {d0 : Nat} {S : gS} {H : Heap} {locs : List Loc} {ls : Array Slot} {o : Int32 × gS} (C : gC p s m args meth c cX3_readExpr 4 RX3 none D (xtys cI cB cZ cQ) xord g Am) (O : xsO g cI cB cZ cQ Am aK aV) (hd0 : 12 ≤ d0) (KE : ∀ (k1 : Nat) (hk_k1 : xk k1 = 4) (x : Int32) (S : gS) (o : Int32 × gS), rE k1 x S = some o → gM l yX3_readExpr cX3_readExpr 4 none d0 D (xtys cI cB cZ cQ) (xcell g cI cB cZ cQ) xord g Am [.ref (g 1), .ref (g k1), .int x] S none o.2) (X : gX D (xcell g cI cB cZ cQ) xord g S s H locs) (hl : lv_has ls 4 [(0, .ref (g 1))]) (hF : fX3_readExpr_b39 N rE S = some o) : W p l e (rmd (d0 + 7)) s m args below meth c H locs 0 0 (gE below args s D (xtys cI cB cZ cQ) (xcell g cI cB cZ cQ) xord g none o.2) (F0 m 39 ls []) := by
  unfold fX3_readExpr_b39 at hF
  refine lv_iconst (v := 1) C.1.1 C.1.2.1 dX3_readExpr_39 (by decide) ?_
  refine lv_goto (tgt := 44) C.1.1 C.1.2.1 dX3_readExpr_40 (by decide) ?_
  exact bX3_readExpr_44 C O hd0 KE X (lv_sub hl [0] rfl) hF
noncomputable def fX3_readExpr_b27 (N : Nat) (rE : Nat → Int32 → gS → Option (Int32 × gS)) (S : gS) : Option (Int32 × gS) := bnd (fX8_isAtSign N 40 S) fun q1 => (if q1.1 = 0 then fX3_readExpr_b43 N rE q1.2 else fX3_readExpr_b39 N rE q1.2)
theorem bX3_readExpr_27 {N : Nat} {rE : Nat → Int32 → gS → Option (Int32 × gS)} {d0 : Nat} {S : gS} {H : Heap} {locs : List Loc} {ls : Array Slot} {o : Int32 × gS} (C : gC p s m args meth c cX3_readExpr 4 RX3 none D (xtys cI cB cZ cQ) xord g Am) (O : xsO g cI cB cZ cQ Am aK aV) (hd0 : 12 ≤ d0) (KE : ∀ (k1 : Nat) (hk_k1 : xk k1 = 4) (x : Int32) (S : gS) (o : Int32 × gS), rE k1 x S = some o → gM l yX3_readExpr cX3_readExpr 4 none d0 D (xtys cI cB cZ cQ) (xcell g cI cB cZ cQ) xord g Am [.ref (g 1), .ref (g k1), .int x] S none o.2) (X : gX D (xcell g cI cB cZ cQ) xord g S s H locs) (hl : lv_has ls 4 [(0, .ref (g 1))]) (hF : fX3_readExpr_b27 N rE S = some o) : W p l e (rmd (d0 + 7)) s m args below meth c H locs 0 0 (gE below args s D (xtys cI cB cZ cQ) (xcell g cI cB cZ cQ) xord g none o.2) (F0 m 27 ls []) := by
  unfold fX3_readExpr_b27 at hF
  refine lv_aload_n C.1.1 C.1.2.1 dX3_readExpr_27 rfl (lv_at hl 0 rfl) ?_
  refine xg_X3_12 C O.1 X (k := 1) rfl (j := 2) rfl dX3_readExpr_28 ?_
  refine lv_bipush (v := 40) C.1.1 C.1.2.1 dX3_readExpr_31 (by decide) ?_
  obtain ⟨q1, hq1, hF⟩ := bnd_some hF
  refine x_callVi C X (k := 2) xv_X3_56 (rfl : xk 2 = 8) rfl rfl (by decide) (kX8_isAtSign O.1 C.2.2.2.2.1 N 40 S q1 hq1) (by simp only [rmd]; omega) (by simp only [rmd]; omega) (Nat.zero_le _) (Nat.zero_le _) rfl hl.1 rfl (Nat.le_of_ble_eq_true rfl) dX3_readExpr_33 (fun H locs X => ?_)
  refine lv_if_eq (tgt := 43) C.1.1 C.1.2.1 dX3_readExpr_36 (by decide) (fun h_z => ?_) (fun h_z => ?_)
  · rw [if_pos h_z] at hF
    exact bX3_readExpr_43 C O hd0 KE X (lv_sub hl [0] rfl) hF
  · rw [if_neg h_z] at hF
    exact bX3_readExpr_39 C O hd0 KE X (lv_sub hl [0] rfl) hF
noncomputable def fX3_readExpr_b16 (N : Nat) (rE : Nat → Int32 → gS → Option (Int32 × gS)) (S : gS) : Option (Int32 × gS) := if (S 2 4) = 1 then fX3_readExpr_b39 N rE S else fX3_readExpr_b27 N rE S
theorem bX3_readExpr_16 {N : Nat} {rE : Nat → Int32 → gS → Option (Int32 × gS)} {d0 : Nat} {S : gS} {H : Heap} {locs : List Loc} {ls : Array Slot} {o : Int32 × gS} (C : gC p s m args meth c cX3_readExpr 4 RX3 none D (xtys cI cB cZ cQ) xord g Am) (O : xsO g cI cB cZ cQ Am aK aV) (hd0 : 12 ≤ d0) (KE : ∀ (k1 : Nat) (hk_k1 : xk k1 = 4) (x : Int32) (S : gS) (o : Int32 × gS), rE k1 x S = some o → gM l yX3_readExpr cX3_readExpr 4 none d0 D (xtys cI cB cZ cQ) (xcell g cI cB cZ cQ) xord g Am [.ref (g 1), .ref (g k1), .int x] S none o.2) (X : gX D (xcell g cI cB cZ cQ) xord g S s H locs) (hl : lv_has ls 4 [(0, .ref (g 1))]) (hF : fX3_readExpr_b16 N rE S = some o) : W p l e (rmd (d0 + 7)) s m args below meth c H locs 0 0 (gE below args s D (xtys cI cB cZ cQ) (xcell g cI cB cZ cQ) xord g none o.2) (F0 m 16 ls []) := by
  unfold fX3_readExpr_b16 at hF
  refine lv_aload_n C.1.1 C.1.2.1 dX3_readExpr_16 rfl (lv_at hl 0 rfl) ?_
  refine xg_X3_12 C O.1 X (k := 1) rfl (j := 2) rfl dX3_readExpr_17 ?_
  refine xg_X3_43 C O.1 X (k := 2) rfl dX3_readExpr_20 ?_
  refine lv_iconst (v := 1) C.1.1 C.1.2.1 dX3_readExpr_23 (by decide) ?_
  refine lv_icmp_eq (tgt := 39) C.1.1 C.1.2.1 dX3_readExpr_24 (by decide) (fun h_z => ?_) (fun h_z => ?_)
  · rw [if_pos h_z] at hF
    exact bX3_readExpr_39 C O hd0 KE X (lv_sub hl [0] rfl) hF
  · rw [if_neg h_z] at hF
    exact bX3_readExpr_27 C O hd0 KE X (lv_sub hl [0] rfl) hF
noncomputable def fX3_readExpr_b5 (N : Nat) (rE : Nat → Int32 → gS → Option (Int32 × gS)) (S : gS) : Option (Int32 × gS) := if (S 2 4) = 2 then fX3_readExpr_b39 N rE S else fX3_readExpr_b16 N rE S
theorem bX3_readExpr_5 {N : Nat} {rE : Nat → Int32 → gS → Option (Int32 × gS)} {d0 : Nat} {S : gS} {H : Heap} {locs : List Loc} {ls : Array Slot} {o : Int32 × gS} (C : gC p s m args meth c cX3_readExpr 4 RX3 none D (xtys cI cB cZ cQ) xord g Am) (O : xsO g cI cB cZ cQ Am aK aV) (hd0 : 12 ≤ d0) (KE : ∀ (k1 : Nat) (hk_k1 : xk k1 = 4) (x : Int32) (S : gS) (o : Int32 × gS), rE k1 x S = some o → gM l yX3_readExpr cX3_readExpr 4 none d0 D (xtys cI cB cZ cQ) (xcell g cI cB cZ cQ) xord g Am [.ref (g 1), .ref (g k1), .int x] S none o.2) (X : gX D (xcell g cI cB cZ cQ) xord g S s H locs) (hl : lv_has ls 4 [(0, .ref (g 1))]) (hF : fX3_readExpr_b5 N rE S = some o) : W p l e (rmd (d0 + 7)) s m args below meth c H locs 0 0 (gE below args s D (xtys cI cB cZ cQ) (xcell g cI cB cZ cQ) xord g none o.2) (F0 m 5 ls []) := by
  unfold fX3_readExpr_b5 at hF
  refine lv_aload_n C.1.1 C.1.2.1 dX3_readExpr_5 rfl (lv_at hl 0 rfl) ?_
  refine xg_X3_12 C O.1 X (k := 1) rfl (j := 2) rfl dX3_readExpr_6 ?_
  refine xg_X3_43 C O.1 X (k := 2) rfl dX3_readExpr_9 ?_
  refine lv_iconst (v := 2) C.1.1 C.1.2.1 dX3_readExpr_12 (by decide) ?_
  refine lv_icmp_eq (tgt := 39) C.1.1 C.1.2.1 dX3_readExpr_13 (by decide) (fun h_z => ?_) (fun h_z => ?_)
  · rw [if_pos h_z] at hF
    exact bX3_readExpr_39 C O hd0 KE X (lv_sub hl [0] rfl) hF
  · rw [if_neg h_z] at hF
    exact bX3_readExpr_16 C O hd0 KE X (lv_sub hl [0] rfl) hF
noncomputable def fX3_readExpr_b0 (N : Nat) (rE : Nat → Int32 → gS → Option (Int32 × gS)) (k1 : Nat) (x2 : Int32) (S : gS) : Option (Int32 × gS) := if x2 ≤ 5 then fX3_readExpr_b59 N rE k1 x2 S else fX3_readExpr_b5 N rE S
theorem bX3_readExpr_0 {N : Nat} {rE : Nat → Int32 → gS → Option (Int32 × gS)} {d0 : Nat} {k1 : Nat} {x2 : Int32} {S : gS} {H : Heap} {locs : List Loc} {ls : Array Slot} {o : Int32 × gS} (C : gC p s m args meth c cX3_readExpr 4 RX3 none D (xtys cI cB cZ cQ) xord g Am) (O : xsO g cI cB cZ cQ Am aK aV) (hd0 : 12 ≤ d0) (KE : ∀ (k1 : Nat) (hk_k1 : xk k1 = 4) (x : Int32) (S : gS) (o : Int32 × gS), rE k1 x S = some o → gM l yX3_readExpr cX3_readExpr 4 none d0 D (xtys cI cB cZ cQ) (xcell g cI cB cZ cQ) xord g Am [.ref (g 1), .ref (g k1), .int x] S none o.2) (hk_k1 : xk k1 = 4) (X : gX D (xcell g cI cB cZ cQ) xord g S s H locs) (hl : lv_has ls 4 [(0, .ref (g 1)), (1, .ref (g k1)), (2, .int x2)]) (hF : fX3_readExpr_b0 N rE k1 x2 S = some o) : W p l e (rmd (d0 + 7)) s m args below meth c H locs 0 0 (gE below args s D (xtys cI cB cZ cQ) (xcell g cI cB cZ cQ) xord g none o.2) (F0 m 0 ls []) := by
  unfold fX3_readExpr_b0 at hF
  refine lv_iload_n C.1.1 C.1.2.1 dX3_readExpr_0 rfl (lv_at hl 2 rfl) ?_
  refine lv_iconst (v := 5) C.1.1 C.1.2.1 dX3_readExpr_1 (by decide) ?_
  refine lv_icmp_le (tgt := 59) C.1.1 C.1.2.1 dX3_readExpr_2 (by decide) (fun h_z => ?_) (fun h_z => ?_)
  · rw [if_pos h_z] at hF
    exact bX3_readExpr_59 C O hd0 KE (hk_k1 : xk k1 = 4) X (lv_sub hl [0, 1, 2] rfl) hF
  · rw [if_neg h_z] at hF
    exact bX3_readExpr_5 C O hd0 KE X (lv_sub hl [0] rfl) hF
noncomputable def fX3_readExpr (N : Nat) (rE : Nat → Int32 → gS → Option (Int32 × gS)) (k1 : Nat) (x2 : Int32) (S : gS) : Option (Int32 × gS) := fX3_readExpr_b0 N rE k1 x2 S
theorem kX3_readExpr {l : Launch} {D : va_G} {g : Nat → Nat} {cI cB cZ cQ : ClassId} {Am : (Nat → Prop) → State → Heap → Prop} {aK aV : Nat → Nat} (O : xsO g cI cB cZ cQ Am aK aV) (P : gAm Am) (N : Nat) {rE : Nat → Int32 → gS → Option (Int32 × gS)} {d0 : Nat} (hd0 : 12 ≤ d0) (KE : ∀ (k1 : Nat) (hk_k1 : xk k1 = 4) (x : Int32) (S : gS) (o : Int32 × gS), rE k1 x S = some o → gM l yX3_readExpr cX3_readExpr 4 none d0 D (xtys cI cB cZ cQ) (xcell g cI cB cZ cQ) xord g Am [.ref (g 1), .ref (g k1), .int x] S none o.2) (k1 : Nat) (x2 : Int32) (hk_k1 : xk k1 = 4) (S : gS) (o : Int32 × gS) (hF : fX3_readExpr N rE k1 x2 S = some o) : gM l yX3_readExpr cX3_readExpr 4 none (d0 + 7) D (xtys cI cB cZ cQ) (xcell g cI cB cZ cQ) xord g Am [.ref (g 1), .ref (g k1), .int x2] S none o.2 :=
  gM_of O.1.1 P (by decide) (Nat.le_of_ble_eq_true rfl) (fun p e s m args below meth c ls C X hl => bX3_readExpr_0 C O hd0 KE hk_k1 X (lv_sub hl [0, 1, 2] rfl) hF)
/-- the expressions, n deep -/
noncomputable def fX3_E (N : Nat) : Nat → Nat → Int32 → gS → Option (Int32 × gS)
  | 0, _, _, _ => none
  | n + 1, k, x, S => fX3_readExpr N (fX3_E N n) k x S
theorem kX3_E {l : Launch} {D : va_G} {g : Nat → Nat} {cI cB cZ cQ : ClassId} {Am : (Nat → Prop) → State → Heap → Prop} {aK aV : Nat → Nat} (O : xsO g cI cB cZ cQ Am aK aV) (P : gAm Am) (N : Nat) : ∀ (n : Nat) (k1 : Nat) (x : Int32) (hk_k1 : xk k1 = 4) (S : gS) (o : Int32 × gS), fX3_E N n k1 x S = some o → gM l yX3_readExpr cX3_readExpr 4 none (12 + 7 * n) D (xtys cI cB cZ cQ) (xcell g cI cB cZ cQ) xord g Am [.ref (g 1), .ref (g k1), .int x] S none o.2 := by
  intro n
  induction n with
  | zero =>
    intro k1 x hk_k1 S o hF
    exact absurd (show (none : Option (Int32 × gS)) = some o from hF) (by simp)
  | succ n ih =>
    intro k1 x hk_k1 S o hF
    exact kX3_readExpr (d0 := 12 + 7 * n) (rE := fX3_E N n) O P N (by omega) (fun k1 hk x S o h => ih k1 x hk S o h) k1 x hk_k1 S o hF
-- X3.readRule
noncomputable def fX3_readRule_b13 (N : Nat) (k1 : Nat) (S : gS) : Option (Int32 × gS) := bnd (fX8_advance N S) fun q1 => (bnd (fX3_E N 8 k1 0 q1.2) fun q2 => (some (0, q2.2)))
theorem bX3_readRule_13 {N : Nat} {k1 : Nat} {S : gS} {H : Heap} {locs : List Loc} {ls : Array Slot} {o : Int32 × gS} (C : gC p s m args meth c cX3_readRule 2 RX3 none D (xtys cI cB cZ cQ) xord g Am) (O : xsO g cI cB cZ cQ Am aK aV) (hk_k1 : xk k1 = 4) (X : gX D (xcell g cI cB cZ cQ) xord g S s H locs) (hl : lv_has ls 2 [(0, .ref (g 1)), (1, .ref (g k1))]) (hF : fX3_readRule_b13 N k1 S = some o) : W p l e (rmd 69) s m args below meth c H locs 0 0 (gE below args s D (xtys cI cB cZ cQ) (xcell g cI cB cZ cQ) xord g none o.2) (F0 m 13 ls []) := by
  unfold fX3_readRule_b13 at hF
  refine lv_aload_n C.1.1 C.1.2.1 dX3_readRule_13 rfl (lv_at hl 0 rfl) ?_
  refine xg_X3_12 C O.1 X (k := 1) rfl (j := 2) rfl dX3_readRule_14 ?_
  obtain ⟨q1, hq1, hF⟩ := bnd_some hF
  refine x_callV C X (k := 2) xv_X3_63 (rfl : xk 2 = 8) rfl rfl (by decide) (kX8_advance O C.2.2.2.2.1 N S q1 hq1) (Nat.le_of_ble_eq_true rfl) (Nat.le_of_ble_eq_true rfl) (Nat.le_of_ble_eq_true rfl) (Nat.le_of_ble_eq_true rfl) rfl hl.1 rfl (Nat.le_of_ble_eq_true rfl) dX3_readRule_17 (fun H locs X => ?_)
  refine lv_aload_n C.1.1 C.1.2.1 dX3_readRule_20 rfl (lv_at hl 0 rfl) ?_
  refine lv_aload_n C.1.1 C.1.2.1 dX3_readRule_21 rfl (lv_at hl 1 rfl) ?_
  refine lv_iconst (v := 0) C.1.1 C.1.2.1 dX3_readRule_22 (by decide) ?_
  obtain ⟨q2, hq2, hF⟩ := bnd_some hF
  refine x_callV C X (k := 1) xv_X3_176 (rfl : xk 1 = 3) rfl rfl (by decide) (kX3_E O C.2.2.2.2.1 N 8 k1 0 (hk_k1 : xk k1 = 4) q1.2 q2 hq2) (Nat.le_of_ble_eq_true rfl) (Nat.le_of_ble_eq_true rfl) (Nat.le_of_ble_eq_true rfl) (Nat.le_of_ble_eq_true rfl) rfl hl.1 rfl (Nat.le_of_ble_eq_true rfl) dX3_readRule_23 (fun H locs X => ?_)
  cases hF
  exact g_vret C X dX3_readRule_26
noncomputable def fX3_readRule_b7 (N : Nat) (S : gS) : Option (Int32 × gS) := bnd (fX3_refuse N 5 S) fun q1 => (some (0, q1.2))
theorem bX3_readRule_7 {N : Nat} {S : gS} {H : Heap} {locs : List Loc} {ls : Array Slot} {o : Int32 × gS} (C : gC p s m args meth c cX3_readRule 2 RX3 none D (xtys cI cB cZ cQ) xord g Am) (O : xsO g cI cB cZ cQ Am aK aV) (X : gX D (xcell g cI cB cZ cQ) xord g S s H locs) (hl : lv_has ls 2 [(0, .ref (g 1))]) (hF : fX3_readRule_b7 N S = some o) : W p l e (rmd 69) s m args below meth c H locs 0 0 (gE below args s D (xtys cI cB cZ cQ) (xcell g cI cB cZ cQ) xord g none o.2) (F0 m 7 ls []) := by
  unfold fX3_readRule_b7 at hF
  refine lv_aload_n C.1.1 C.1.2.1 dX3_readRule_7 rfl (lv_at hl 0 rfl) ?_
  refine lv_iconst (v := 5) C.1.1 C.1.2.1 dX3_readRule_8 (by decide) ?_
  obtain ⟨q1, hq1, hF⟩ := bnd_some hF
  refine x_callV C X (k := 1) xv_X3_60 (rfl : xk 1 = 3) rfl rfl (by decide) (kX3_refuse O.1 C.2.2.2.2.1 N 5 S q1 hq1) (Nat.le_of_ble_eq_true rfl) (Nat.le_of_ble_eq_true rfl) (Nat.le_of_ble_eq_true rfl) (Nat.le_of_ble_eq_true rfl) rfl hl.1 rfl (Nat.le_of_ble_eq_true rfl) dX3_readRule_9 (fun H locs X => ?_)
  cases hF
  exact g_vret C X dX3_readRule_12
noncomputable def fX3_readRule_b0 (N : Nat) (k1 : Nat) (S : gS) : Option (Int32 × gS) := bnd (fX4_isTold N k1 S) fun q1 => (if q1.1 = 0 then fX3_readRule_b13 N k1 q1.2 else fX3_readRule_b7 N q1.2)
theorem bX3_readRule_0 {N : Nat} {k1 : Nat} {S : gS} {H : Heap} {locs : List Loc} {ls : Array Slot} {o : Int32 × gS} (C : gC p s m args meth c cX3_readRule 2 RX3 none D (xtys cI cB cZ cQ) xord g Am) (O : xsO g cI cB cZ cQ Am aK aV) (hk_k1 : xk k1 = 4) (X : gX D (xcell g cI cB cZ cQ) xord g S s H locs) (hl : lv_has ls 2 [(0, .ref (g 1)), (1, .ref (g k1))]) (hF : fX3_readRule_b0 N k1 S = some o) : W p l e (rmd 69) s m args below meth c H locs 0 0 (gE below args s D (xtys cI cB cZ cQ) (xcell g cI cB cZ cQ) xord g none o.2) (F0 m 0 ls []) := by
  unfold fX3_readRule_b0 at hF
  refine lv_aload_n C.1.1 C.1.2.1 dX3_readRule_0 rfl (lv_at hl 1 rfl) ?_
  obtain ⟨q1, hq1, hF⟩ := bnd_some hF
  refine x_callVi C X (k := k1) xv_X3_171 hk_k1 rfl rfl (by decide) (kX4_isTold O.1 C.2.2.2.2.1 N k1 (hk_k1 : xk k1 = 4) S q1 hq1) (Nat.le_of_ble_eq_true rfl) (Nat.le_of_ble_eq_true rfl) (Nat.le_of_ble_eq_true rfl) (Nat.le_of_ble_eq_true rfl) rfl hl.1 rfl (Nat.le_of_ble_eq_true rfl) dX3_readRule_1 (fun H locs X => ?_)
  refine lv_if_eq (tgt := 13) C.1.1 C.1.2.1 dX3_readRule_4 (by decide) (fun h_z => ?_) (fun h_z => ?_)
  · rw [if_pos h_z] at hF
    exact bX3_readRule_13 C O (hk_k1 : xk k1 = 4) X (lv_sub hl [0, 1] rfl) hF
  · rw [if_neg h_z] at hF
    exact bX3_readRule_7 C O X (lv_sub hl [0] rfl) hF
noncomputable def fX3_readRule (N : Nat) (k1 : Nat) (S : gS) : Option (Int32 × gS) := fX3_readRule_b0 N k1 S
theorem kX3_readRule {l : Launch} {D : va_G} {g : Nat → Nat} {cI cB cZ cQ : ClassId} {Am : (Nat → Prop) → State → Heap → Prop} {aK aV : Nat → Nat} (O : xsO g cI cB cZ cQ Am aK aV) (P : gAm Am) (N : Nat) (k1 : Nat) (hk_k1 : xk k1 = 4) (S : gS) (o : Int32 × gS) (hF : fX3_readRule N k1 S = some o) : gM l yX3_readRule cX3_readRule 2 none 69 D (xtys cI cB cZ cQ) (xcell g cI cB cZ cQ) xord g Am [.ref (g 1), .ref (g k1)] S none o.2 :=
  gM_of O.1.1 P (by decide) (Nat.le_of_ble_eq_true rfl) (fun p e s m args below meth c ls C X hl => bX3_readRule_0 C O hk_k1 X (lv_sub hl [0, 1] rfl) hF)
-- X3.readLine
noncomputable def fX3_readLine_b154 (N : Nat) (S : gS) : Option (Int32 × gS) := some (0, S)
theorem bX3_readLine_154 {N : Nat} {S : gS} {H : Heap} {locs : List Loc} {ls : Array Slot} {o : Int32 × gS} (C : gC p s m args meth c cX3_readLine 1 RX3 none D (xtys cI cB cZ cQ) xord g Am) (O : xsO g cI cB cZ cQ Am aK aV) (X : gX D (xcell g cI cB cZ cQ) xord g S s H locs) (hl : lv_has ls 1 []) (hF : fX3_readLine_b154 N S = some o) : W p l e (rmd 70) s m args below meth c H locs 0 0 (gE below args s D (xtys cI cB cZ cQ) (xcell g cI cB cZ cQ) xord g none o.2) (F0 m 154 ls []) := by
  unfold fX3_readLine_b154 at hF
  cases hF
  exact g_vret C X dX3_readLine_154
noncomputable def fX3_readLine_b149 (N : Nat) (S : gS) : Option (Int32 × gS) := bnd (fX3_refuse N 1 S) fun q1 => (fX3_readLine_b154 N q1.2)
theorem bX3_readLine_149 {N : Nat} {S : gS} {H : Heap} {locs : List Loc} {ls : Array Slot} {o : Int32 × gS} (C : gC p s m args meth c cX3_readLine 1 RX3 none D (xtys cI cB cZ cQ) xord g Am) (O : xsO g cI cB cZ cQ Am aK aV) (X : gX D (xcell g cI cB cZ cQ) xord g S s H locs) (hl : lv_has ls 1 [(0, .ref (g 1))]) (hF : fX3_readLine_b149 N S = some o) : W p l e (rmd 70) s m args below meth c H locs 0 0 (gE below args s D (xtys cI cB cZ cQ) (xcell g cI cB cZ cQ) xord g none o.2) (F0 m 149 ls []) := by
  unfold fX3_readLine_b149 at hF
  refine lv_aload_n C.1.1 C.1.2.1 dX3_readLine_149 rfl (lv_at hl 0 rfl) ?_
  refine lv_iconst (v := 1) C.1.1 C.1.2.1 dX3_readLine_150 (by decide) ?_
  obtain ⟨q1, hq1, hF⟩ := bnd_some hF
  refine x_callV C X (k := 1) xv_X3_60 (rfl : xk 1 = 3) rfl rfl (by decide) (kX3_refuse O.1 C.2.2.2.2.1 N 1 S q1 hq1) (Nat.le_of_ble_eq_true rfl) (Nat.le_of_ble_eq_true rfl) (Nat.le_of_ble_eq_true rfl) (Nat.le_of_ble_eq_true rfl) rfl hl.1 rfl (Nat.le_of_ble_eq_true rfl) dX3_readLine_151 (fun H locs X => ?_)
  exact bX3_readLine_154 C O X (lv_sub hl [] rfl) hF
noncomputable def fX3_readLine_b135 (N : Nat) (S : gS) : Option (Int32 × gS) := lt (xdr S) fun T1 => (bnd (fX3_readRule N (T1 + 13) S) fun q1 => (fX3_readLine_b154 N q1.2))
theorem bX3_readLine_135 {N : Nat} {S : gS} {H : Heap} {locs : List Loc} {ls : Array Slot} {o : Int32 × gS} (C : gC p s m args meth c cX3_readLine 1 RX3 none D (xtys cI cB cZ cQ) xord g Am) (O : xsO g cI cB cZ cQ Am aK aV) (X : gX D (xcell g cI cB cZ cQ) xord g S s H locs) (hl : lv_has ls 1 [(0, .ref (g 1))]) (hF : fX3_readLine_b135 N S = some o) : W p l e (rmd 70) s m args below meth c H locs 0 0 (gE below args s D (xtys cI cB cZ cQ) (xcell g cI cB cZ cQ) xord g none o.2) (F0 m 135 ls []) := by
  unfold fX3_readLine_b135 at hF
  refine lv_aload_n C.1.1 C.1.2.1 dX3_readLine_135 rfl (lv_at hl 0 rfl) ?_
  refine lv_aload_n C.1.1 C.1.2.1 dX3_readLine_136 rfl (lv_at hl 0 rfl) ?_
  obtain ⟨T1, eT1, hF⟩ := lt_some hF
  have hk_T1 := xdr_k eT1
  refine xg_X3_21 C O.1 X (T := T1) eT1 (k := 1) rfl dX3_readLine_137 ?_
  refine xg_X3_111 C O.1 X (k := T1) hk_T1 (j := T1 + 13) rfl dX3_readLine_140 ?_
  obtain ⟨q1, hq1, hF⟩ := bnd_some hF
  refine x_callV C X (k := 1) xv_X3_105 (rfl : xk 1 = 3) rfl rfl (by decide) (kX3_readRule O C.2.2.2.2.1 N (T1 + 13) ((xs_9_14 hk_T1) : xk (T1 + 13) = 4) S q1 hq1) (Nat.le_of_ble_eq_true rfl) (Nat.le_of_ble_eq_true rfl) (Nat.le_of_ble_eq_true rfl) (Nat.le_of_ble_eq_true rfl) rfl hl.1 rfl (Nat.le_of_ble_eq_true rfl) dX3_readLine_143 (fun H locs X => ?_)
  refine lv_goto (tgt := 154) C.1.1 C.1.2.1 dX3_readLine_146 (by decide) ?_
  exact bX3_readLine_154 C O X (lv_sub hl [] rfl) hF
noncomputable def fX3_readLine_b123 (N : Nat) (S : gS) : Option (Int32 × gS) := bnd (fX8_isAtWord N 18 S) fun q1 => (if q1.1 = 0 then fX3_readLine_b149 N q1.2 else fX3_readLine_b135 N q1.2)
theorem bX3_readLine_123 {N : Nat} {S : gS} {H : Heap} {locs : List Loc} {ls : Array Slot} {o : Int32 × gS} (C : gC p s m args meth c cX3_readLine 1 RX3 none D (xtys cI cB cZ cQ) xord g Am) (O : xsO g cI cB cZ cQ Am aK aV) (X : gX D (xcell g cI cB cZ cQ) xord g S s H locs) (hl : lv_has ls 1 [(0, .ref (g 1))]) (hF : fX3_readLine_b123 N S = some o) : W p l e (rmd 70) s m args below meth c H locs 0 0 (gE below args s D (xtys cI cB cZ cQ) (xcell g cI cB cZ cQ) xord g none o.2) (F0 m 123 ls []) := by
  unfold fX3_readLine_b123 at hF
  refine lv_aload_n C.1.1 C.1.2.1 dX3_readLine_123 rfl (lv_at hl 0 rfl) ?_
  refine xg_X3_12 C O.1 X (k := 1) rfl (j := 2) rfl dX3_readLine_124 ?_
  refine s_ldc C (xs_sO O) (i := 18) rfl dX3_readLine_127 ?_
  obtain ⟨q1, hq1, hF⟩ := bnd_some hF
  refine x_callVi C X (k := 2) xv_X3_75 (rfl : xk 2 = 8) rfl rfl (by decide) (kX8_isAtWord O C.2.2.2.2.1 N 18 (rfl : sI 18 = true) S q1 hq1) (Nat.le_of_ble_eq_true rfl) (Nat.le_of_ble_eq_true rfl) (Nat.le_of_ble_eq_true rfl) (Nat.le_of_ble_eq_true rfl) rfl hl.1 rfl (Nat.le_of_ble_eq_true rfl) dX3_readLine_129 (fun H locs X => ?_)
  refine lv_if_eq (tgt := 149) C.1.1 C.1.2.1 dX3_readLine_132 (by decide) (fun h_z => ?_) (fun h_z => ?_)
  · rw [if_pos h_z] at hF
    exact bX3_readLine_149 C O X (lv_sub hl [0] rfl) hF
  · rw [if_neg h_z] at hF
    exact bX3_readLine_135 C O X (lv_sub hl [0] rfl) hF
noncomputable def fX3_readLine_b109 (N : Nat) (S : gS) : Option (Int32 × gS) := lt (xdr S) fun T1 => (bnd (fX3_readRule N (T1 + 10) S) fun q1 => (fX3_readLine_b154 N q1.2))
theorem bX3_readLine_109 {N : Nat} {S : gS} {H : Heap} {locs : List Loc} {ls : Array Slot} {o : Int32 × gS} (C : gC p s m args meth c cX3_readLine 1 RX3 none D (xtys cI cB cZ cQ) xord g Am) (O : xsO g cI cB cZ cQ Am aK aV) (X : gX D (xcell g cI cB cZ cQ) xord g S s H locs) (hl : lv_has ls 1 [(0, .ref (g 1))]) (hF : fX3_readLine_b109 N S = some o) : W p l e (rmd 70) s m args below meth c H locs 0 0 (gE below args s D (xtys cI cB cZ cQ) (xcell g cI cB cZ cQ) xord g none o.2) (F0 m 109 ls []) := by
  unfold fX3_readLine_b109 at hF
  refine lv_aload_n C.1.1 C.1.2.1 dX3_readLine_109 rfl (lv_at hl 0 rfl) ?_
  refine lv_aload_n C.1.1 C.1.2.1 dX3_readLine_110 rfl (lv_at hl 0 rfl) ?_
  obtain ⟨T1, eT1, hF⟩ := lt_some hF
  have hk_T1 := xdr_k eT1
  refine xg_X3_21 C O.1 X (T := T1) eT1 (k := 1) rfl dX3_readLine_111 ?_
  refine xg_X3_102 C O.1 X (k := T1) hk_T1 (j := T1 + 10) rfl dX3_readLine_114 ?_
  obtain ⟨q1, hq1, hF⟩ := bnd_some hF
  refine x_callV C X (k := 1) xv_X3_105 (rfl : xk 1 = 3) rfl rfl (by decide) (kX3_readRule O C.2.2.2.2.1 N (T1 + 10) ((xs_9_13 hk_T1) : xk (T1 + 10) = 4) S q1 hq1) (Nat.le_of_ble_eq_true rfl) (Nat.le_of_ble_eq_true rfl) (Nat.le_of_ble_eq_true rfl) (Nat.le_of_ble_eq_true rfl) rfl hl.1 rfl (Nat.le_of_ble_eq_true rfl) dX3_readLine_117 (fun H locs X => ?_)
  refine lv_goto (tgt := 154) C.1.1 C.1.2.1 dX3_readLine_120 (by decide) ?_
  exact bX3_readLine_154 C O X (lv_sub hl [] rfl) hF
noncomputable def fX3_readLine_b97 (N : Nat) (S : gS) : Option (Int32 × gS) := bnd (fX8_isAtWord N 8 S) fun q1 => (if q1.1 = 0 then fX3_readLine_b123 N q1.2 else fX3_readLine_b109 N q1.2)
theorem bX3_readLine_97 {N : Nat} {S : gS} {H : Heap} {locs : List Loc} {ls : Array Slot} {o : Int32 × gS} (C : gC p s m args meth c cX3_readLine 1 RX3 none D (xtys cI cB cZ cQ) xord g Am) (O : xsO g cI cB cZ cQ Am aK aV) (X : gX D (xcell g cI cB cZ cQ) xord g S s H locs) (hl : lv_has ls 1 [(0, .ref (g 1))]) (hF : fX3_readLine_b97 N S = some o) : W p l e (rmd 70) s m args below meth c H locs 0 0 (gE below args s D (xtys cI cB cZ cQ) (xcell g cI cB cZ cQ) xord g none o.2) (F0 m 97 ls []) := by
  unfold fX3_readLine_b97 at hF
  refine lv_aload_n C.1.1 C.1.2.1 dX3_readLine_97 rfl (lv_at hl 0 rfl) ?_
  refine xg_X3_12 C O.1 X (k := 1) rfl (j := 2) rfl dX3_readLine_98 ?_
  refine s_ldc C (xs_sO O) (i := 8) rfl dX3_readLine_101 ?_
  obtain ⟨q1, hq1, hF⟩ := bnd_some hF
  refine x_callVi C X (k := 2) xv_X3_75 (rfl : xk 2 = 8) rfl rfl (by decide) (kX8_isAtWord O C.2.2.2.2.1 N 8 (rfl : sI 8 = true) S q1 hq1) (Nat.le_of_ble_eq_true rfl) (Nat.le_of_ble_eq_true rfl) (Nat.le_of_ble_eq_true rfl) (Nat.le_of_ble_eq_true rfl) rfl hl.1 rfl (Nat.le_of_ble_eq_true rfl) dX3_readLine_103 (fun H locs X => ?_)
  refine lv_if_eq (tgt := 123) C.1.1 C.1.2.1 dX3_readLine_106 (by decide) (fun h_z => ?_) (fun h_z => ?_)
  · rw [if_pos h_z] at hF
    exact bX3_readLine_123 C O X (lv_sub hl [0] rfl) hF
  · rw [if_neg h_z] at hF
    exact bX3_readLine_109 C O X (lv_sub hl [0] rfl) hF
noncomputable def fX3_readLine_b90 (N : Nat) (S : gS) : Option (Int32 × gS) := bnd (fX3_readBound N S) fun q1 => (fX3_readLine_b154 N q1.2)
theorem bX3_readLine_90 {N : Nat} {S : gS} {H : Heap} {locs : List Loc} {ls : Array Slot} {o : Int32 × gS} (C : gC p s m args meth c cX3_readLine 1 RX3 none D (xtys cI cB cZ cQ) xord g Am) (O : xsO g cI cB cZ cQ Am aK aV) (X : gX D (xcell g cI cB cZ cQ) xord g S s H locs) (hl : lv_has ls 1 [(0, .ref (g 1))]) (hF : fX3_readLine_b90 N S = some o) : W p l e (rmd 70) s m args below meth c H locs 0 0 (gE below args s D (xtys cI cB cZ cQ) (xcell g cI cB cZ cQ) xord g none o.2) (F0 m 90 ls []) := by
  unfold fX3_readLine_b90 at hF
  refine lv_aload_n C.1.1 C.1.2.1 dX3_readLine_90 rfl (lv_at hl 0 rfl) ?_
  obtain ⟨q1, hq1, hF⟩ := bnd_some hF
  refine x_callV C X (k := 1) xv_X3_97 (rfl : xk 1 = 3) rfl rfl (by decide) (kX3_readBound O C.2.2.2.2.1 N S q1 hq1) (Nat.le_of_ble_eq_true rfl) (Nat.le_of_ble_eq_true rfl) (Nat.le_of_ble_eq_true rfl) (Nat.le_of_ble_eq_true rfl) rfl hl.1 rfl (Nat.le_of_ble_eq_true rfl) dX3_readLine_91 (fun H locs X => ?_)
  refine lv_goto (tgt := 154) C.1.1 C.1.2.1 dX3_readLine_94 (by decide) ?_
  exact bX3_readLine_154 C O X (lv_sub hl [] rfl) hF
noncomputable def fX3_readLine_b78 (N : Nat) (S : gS) : Option (Int32 × gS) := bnd (fX8_isAtWord N 7 S) fun q1 => (if q1.1 = 0 then fX3_readLine_b97 N q1.2 else fX3_readLine_b90 N q1.2)
theorem bX3_readLine_78 {N : Nat} {S : gS} {H : Heap} {locs : List Loc} {ls : Array Slot} {o : Int32 × gS} (C : gC p s m args meth c cX3_readLine 1 RX3 none D (xtys cI cB cZ cQ) xord g Am) (O : xsO g cI cB cZ cQ Am aK aV) (X : gX D (xcell g cI cB cZ cQ) xord g S s H locs) (hl : lv_has ls 1 [(0, .ref (g 1))]) (hF : fX3_readLine_b78 N S = some o) : W p l e (rmd 70) s m args below meth c H locs 0 0 (gE below args s D (xtys cI cB cZ cQ) (xcell g cI cB cZ cQ) xord g none o.2) (F0 m 78 ls []) := by
  unfold fX3_readLine_b78 at hF
  refine lv_aload_n C.1.1 C.1.2.1 dX3_readLine_78 rfl (lv_at hl 0 rfl) ?_
  refine xg_X3_12 C O.1 X (k := 1) rfl (j := 2) rfl dX3_readLine_79 ?_
  refine s_ldc C (xs_sO O) (i := 7) rfl dX3_readLine_82 ?_
  obtain ⟨q1, hq1, hF⟩ := bnd_some hF
  refine x_callVi C X (k := 2) xv_X3_75 (rfl : xk 2 = 8) rfl rfl (by decide) (kX8_isAtWord O C.2.2.2.2.1 N 7 (rfl : sI 7 = true) S q1 hq1) (Nat.le_of_ble_eq_true rfl) (Nat.le_of_ble_eq_true rfl) (Nat.le_of_ble_eq_true rfl) (Nat.le_of_ble_eq_true rfl) rfl hl.1 rfl (Nat.le_of_ble_eq_true rfl) dX3_readLine_84 (fun H locs X => ?_)
  refine lv_if_eq (tgt := 97) C.1.1 C.1.2.1 dX3_readLine_87 (by decide) (fun h_z => ?_) (fun h_z => ?_)
  · rw [if_pos h_z] at hF
    exact bX3_readLine_97 C O X (lv_sub hl [0] rfl) hF
  · rw [if_neg h_z] at hF
    exact bX3_readLine_90 C O X (lv_sub hl [0] rfl) hF
noncomputable def fX3_readLine_b71 (N : Nat) (S : gS) : Option (Int32 × gS) := bnd (fX3_readWet N S) fun q1 => (fX3_readLine_b154 N q1.2)
theorem bX3_readLine_71 {N : Nat} {S : gS} {H : Heap} {locs : List Loc} {ls : Array Slot} {o : Int32 × gS} (C : gC p s m args meth c cX3_readLine 1 RX3 none D (xtys cI cB cZ cQ) xord g Am) (O : xsO g cI cB cZ cQ Am aK aV) (X : gX D (xcell g cI cB cZ cQ) xord g S s H locs) (hl : lv_has ls 1 [(0, .ref (g 1))]) (hF : fX3_readLine_b71 N S = some o) : W p l e (rmd 70) s m args below meth c H locs 0 0 (gE below args s D (xtys cI cB cZ cQ) (xcell g cI cB cZ cQ) xord g none o.2) (F0 m 71 ls []) := by
  unfold fX3_readLine_b71 at hF
  refine lv_aload_n C.1.1 C.1.2.1 dX3_readLine_71 rfl (lv_at hl 0 rfl) ?_
  obtain ⟨q1, hq1, hF⟩ := bnd_some hF
  refine x_callV C X (k := 1) xv_X3_92 (rfl : xk 1 = 3) rfl rfl (by decide) (kX3_readWet O C.2.2.2.2.1 N S q1 hq1) (Nat.le_of_ble_eq_true rfl) (Nat.le_of_ble_eq_true rfl) (Nat.le_of_ble_eq_true rfl) (Nat.le_of_ble_eq_true rfl) rfl hl.1 rfl (Nat.le_of_ble_eq_true rfl) dX3_readLine_72 (fun H locs X => ?_)
  refine lv_goto (tgt := 154) C.1.1 C.1.2.1 dX3_readLine_75 (by decide) ?_
  exact bX3_readLine_154 C O X (lv_sub hl [] rfl) hF
noncomputable def fX3_readLine_b59 (N : Nat) (S : gS) : Option (Int32 × gS) := bnd (fX8_isAtWord N 6 S) fun q1 => (if q1.1 = 0 then fX3_readLine_b78 N q1.2 else fX3_readLine_b71 N q1.2)
theorem bX3_readLine_59 {N : Nat} {S : gS} {H : Heap} {locs : List Loc} {ls : Array Slot} {o : Int32 × gS} (C : gC p s m args meth c cX3_readLine 1 RX3 none D (xtys cI cB cZ cQ) xord g Am) (O : xsO g cI cB cZ cQ Am aK aV) (X : gX D (xcell g cI cB cZ cQ) xord g S s H locs) (hl : lv_has ls 1 [(0, .ref (g 1))]) (hF : fX3_readLine_b59 N S = some o) : W p l e (rmd 70) s m args below meth c H locs 0 0 (gE below args s D (xtys cI cB cZ cQ) (xcell g cI cB cZ cQ) xord g none o.2) (F0 m 59 ls []) := by
  unfold fX3_readLine_b59 at hF
  refine lv_aload_n C.1.1 C.1.2.1 dX3_readLine_59 rfl (lv_at hl 0 rfl) ?_
  refine xg_X3_12 C O.1 X (k := 1) rfl (j := 2) rfl dX3_readLine_60 ?_
  refine s_ldc C (xs_sO O) (i := 6) rfl dX3_readLine_63 ?_
  obtain ⟨q1, hq1, hF⟩ := bnd_some hF
  refine x_callVi C X (k := 2) xv_X3_75 (rfl : xk 2 = 8) rfl rfl (by decide) (kX8_isAtWord O C.2.2.2.2.1 N 6 (rfl : sI 6 = true) S q1 hq1) (Nat.le_of_ble_eq_true rfl) (Nat.le_of_ble_eq_true rfl) (Nat.le_of_ble_eq_true rfl) (Nat.le_of_ble_eq_true rfl) rfl hl.1 rfl (Nat.le_of_ble_eq_true rfl) dX3_readLine_65 (fun H locs X => ?_)
  refine lv_if_eq (tgt := 78) C.1.1 C.1.2.1 dX3_readLine_68 (by decide) (fun h_z => ?_) (fun h_z => ?_)
  · rw [if_pos h_z] at hF
    exact bX3_readLine_78 C O X (lv_sub hl [0] rfl) hF
  · rw [if_neg h_z] at hF
    exact bX3_readLine_71 C O X (lv_sub hl [0] rfl) hF
noncomputable def fX3_readLine_b52 (N : Nat) (S : gS) : Option (Int32 × gS) := bnd (fX3_readGuild N S) fun q1 => (fX3_readLine_b154 N q1.2)
theorem bX3_readLine_52 {N : Nat} {S : gS} {H : Heap} {locs : List Loc} {ls : Array Slot} {o : Int32 × gS} (C : gC p s m args meth c cX3_readLine 1 RX3 none D (xtys cI cB cZ cQ) xord g Am) (O : xsO g cI cB cZ cQ Am aK aV) (X : gX D (xcell g cI cB cZ cQ) xord g S s H locs) (hl : lv_has ls 1 [(0, .ref (g 1))]) (hF : fX3_readLine_b52 N S = some o) : W p l e (rmd 70) s m args below meth c H locs 0 0 (gE below args s D (xtys cI cB cZ cQ) (xcell g cI cB cZ cQ) xord g none o.2) (F0 m 52 ls []) := by
  unfold fX3_readLine_b52 at hF
  refine lv_aload_n C.1.1 C.1.2.1 dX3_readLine_52 rfl (lv_at hl 0 rfl) ?_
  obtain ⟨q1, hq1, hF⟩ := bnd_some hF
  refine x_callV C X (k := 1) xv_X3_87 (rfl : xk 1 = 3) rfl rfl (by decide) (kX3_readGuild O C.2.2.2.2.1 N S q1 hq1) (Nat.le_of_ble_eq_true rfl) (Nat.le_of_ble_eq_true rfl) (Nat.le_of_ble_eq_true rfl) (Nat.le_of_ble_eq_true rfl) rfl hl.1 rfl (Nat.le_of_ble_eq_true rfl) dX3_readLine_53 (fun H locs X => ?_)
  refine lv_goto (tgt := 154) C.1.1 C.1.2.1 dX3_readLine_56 (by decide) ?_
  exact bX3_readLine_154 C O X (lv_sub hl [] rfl) hF
noncomputable def fX3_readLine_b40 (N : Nat) (S : gS) : Option (Int32 × gS) := bnd (fX8_isAtWord N 4 S) fun q1 => (if q1.1 = 0 then fX3_readLine_b59 N q1.2 else fX3_readLine_b52 N q1.2)
theorem bX3_readLine_40 {N : Nat} {S : gS} {H : Heap} {locs : List Loc} {ls : Array Slot} {o : Int32 × gS} (C : gC p s m args meth c cX3_readLine 1 RX3 none D (xtys cI cB cZ cQ) xord g Am) (O : xsO g cI cB cZ cQ Am aK aV) (X : gX D (xcell g cI cB cZ cQ) xord g S s H locs) (hl : lv_has ls 1 [(0, .ref (g 1))]) (hF : fX3_readLine_b40 N S = some o) : W p l e (rmd 70) s m args below meth c H locs 0 0 (gE below args s D (xtys cI cB cZ cQ) (xcell g cI cB cZ cQ) xord g none o.2) (F0 m 40 ls []) := by
  unfold fX3_readLine_b40 at hF
  refine lv_aload_n C.1.1 C.1.2.1 dX3_readLine_40 rfl (lv_at hl 0 rfl) ?_
  refine xg_X3_12 C O.1 X (k := 1) rfl (j := 2) rfl dX3_readLine_41 ?_
  refine s_ldc C (xs_sO O) (i := 4) rfl dX3_readLine_44 ?_
  obtain ⟨q1, hq1, hF⟩ := bnd_some hF
  refine x_callVi C X (k := 2) xv_X3_75 (rfl : xk 2 = 8) rfl rfl (by decide) (kX8_isAtWord O C.2.2.2.2.1 N 4 (rfl : sI 4 = true) S q1 hq1) (Nat.le_of_ble_eq_true rfl) (Nat.le_of_ble_eq_true rfl) (Nat.le_of_ble_eq_true rfl) (Nat.le_of_ble_eq_true rfl) rfl hl.1 rfl (Nat.le_of_ble_eq_true rfl) dX3_readLine_46 (fun H locs X => ?_)
  refine lv_if_eq (tgt := 59) C.1.1 C.1.2.1 dX3_readLine_49 (by decide) (fun h_z => ?_) (fun h_z => ?_)
  · rw [if_pos h_z] at hF
    exact bX3_readLine_59 C O X (lv_sub hl [0] rfl) hF
  · rw [if_neg h_z] at hF
    exact bX3_readLine_52 C O X (lv_sub hl [0] rfl) hF
noncomputable def fX3_readLine_b32 (N : Nat) (S : gS) : Option (Int32 × gS) := bnd (fX3_readGrotto N 1 S) fun q1 => (fX3_readLine_b154 N q1.2)
theorem bX3_readLine_32 {N : Nat} {S : gS} {H : Heap} {locs : List Loc} {ls : Array Slot} {o : Int32 × gS} (C : gC p s m args meth c cX3_readLine 1 RX3 none D (xtys cI cB cZ cQ) xord g Am) (O : xsO g cI cB cZ cQ Am aK aV) (X : gX D (xcell g cI cB cZ cQ) xord g S s H locs) (hl : lv_has ls 1 [(0, .ref (g 1))]) (hF : fX3_readLine_b32 N S = some o) : W p l e (rmd 70) s m args below meth c H locs 0 0 (gE below args s D (xtys cI cB cZ cQ) (xcell g cI cB cZ cQ) xord g none o.2) (F0 m 32 ls []) := by
  unfold fX3_readLine_b32 at hF
  refine lv_aload_n C.1.1 C.1.2.1 dX3_readLine_32 rfl (lv_at hl 0 rfl) ?_
  refine lv_iconst (v := 1) C.1.1 C.1.2.1 dX3_readLine_33 (by decide) ?_
  obtain ⟨q1, hq1, hF⟩ := bnd_some hF
  refine x_callV C X (k := 1) xv_X3_79 (rfl : xk 1 = 3) rfl rfl (by decide) (kX3_readGrotto O C.2.2.2.2.1 N 1 S q1 hq1) (Nat.le_of_ble_eq_true rfl) (Nat.le_of_ble_eq_true rfl) (Nat.le_of_ble_eq_true rfl) (Nat.le_of_ble_eq_true rfl) rfl hl.1 rfl (Nat.le_of_ble_eq_true rfl) dX3_readLine_34 (fun H locs X => ?_)
  refine lv_goto (tgt := 154) C.1.1 C.1.2.1 dX3_readLine_37 (by decide) ?_
  exact bX3_readLine_154 C O X (lv_sub hl [] rfl) hF
noncomputable def fX3_readLine_b20 (N : Nat) (S : gS) : Option (Int32 × gS) := bnd (fX8_isAtWord N 3 S) fun q1 => (if q1.1 = 0 then fX3_readLine_b40 N q1.2 else fX3_readLine_b32 N q1.2)
theorem bX3_readLine_20 {N : Nat} {S : gS} {H : Heap} {locs : List Loc} {ls : Array Slot} {o : Int32 × gS} (C : gC p s m args meth c cX3_readLine 1 RX3 none D (xtys cI cB cZ cQ) xord g Am) (O : xsO g cI cB cZ cQ Am aK aV) (X : gX D (xcell g cI cB cZ cQ) xord g S s H locs) (hl : lv_has ls 1 [(0, .ref (g 1))]) (hF : fX3_readLine_b20 N S = some o) : W p l e (rmd 70) s m args below meth c H locs 0 0 (gE below args s D (xtys cI cB cZ cQ) (xcell g cI cB cZ cQ) xord g none o.2) (F0 m 20 ls []) := by
  unfold fX3_readLine_b20 at hF
  refine lv_aload_n C.1.1 C.1.2.1 dX3_readLine_20 rfl (lv_at hl 0 rfl) ?_
  refine xg_X3_12 C O.1 X (k := 1) rfl (j := 2) rfl dX3_readLine_21 ?_
  refine s_ldc C (xs_sO O) (i := 3) rfl dX3_readLine_24 ?_
  obtain ⟨q1, hq1, hF⟩ := bnd_some hF
  refine x_callVi C X (k := 2) xv_X3_75 (rfl : xk 2 = 8) rfl rfl (by decide) (kX8_isAtWord O C.2.2.2.2.1 N 3 (rfl : sI 3 = true) S q1 hq1) (Nat.le_of_ble_eq_true rfl) (Nat.le_of_ble_eq_true rfl) (Nat.le_of_ble_eq_true rfl) (Nat.le_of_ble_eq_true rfl) rfl hl.1 rfl (Nat.le_of_ble_eq_true rfl) dX3_readLine_26 (fun H locs X => ?_)
  refine lv_if_eq (tgt := 40) C.1.1 C.1.2.1 dX3_readLine_29 (by decide) (fun h_z => ?_) (fun h_z => ?_)
  · rw [if_pos h_z] at hF
    exact bX3_readLine_40 C O X (lv_sub hl [0] rfl) hF
  · rw [if_neg h_z] at hF
    exact bX3_readLine_32 C O X (lv_sub hl [0] rfl) hF
noncomputable def fX3_readLine_b12 (N : Nat) (S : gS) : Option (Int32 × gS) := bnd (fX3_readGrotto N 0 S) fun q1 => (fX3_readLine_b154 N q1.2)
theorem bX3_readLine_12 {N : Nat} {S : gS} {H : Heap} {locs : List Loc} {ls : Array Slot} {o : Int32 × gS} (C : gC p s m args meth c cX3_readLine 1 RX3 none D (xtys cI cB cZ cQ) xord g Am) (O : xsO g cI cB cZ cQ Am aK aV) (X : gX D (xcell g cI cB cZ cQ) xord g S s H locs) (hl : lv_has ls 1 [(0, .ref (g 1))]) (hF : fX3_readLine_b12 N S = some o) : W p l e (rmd 70) s m args below meth c H locs 0 0 (gE below args s D (xtys cI cB cZ cQ) (xcell g cI cB cZ cQ) xord g none o.2) (F0 m 12 ls []) := by
  unfold fX3_readLine_b12 at hF
  refine lv_aload_n C.1.1 C.1.2.1 dX3_readLine_12 rfl (lv_at hl 0 rfl) ?_
  refine lv_iconst (v := 0) C.1.1 C.1.2.1 dX3_readLine_13 (by decide) ?_
  obtain ⟨q1, hq1, hF⟩ := bnd_some hF
  refine x_callV C X (k := 1) xv_X3_79 (rfl : xk 1 = 3) rfl rfl (by decide) (kX3_readGrotto O C.2.2.2.2.1 N 0 S q1 hq1) (Nat.le_of_ble_eq_true rfl) (Nat.le_of_ble_eq_true rfl) (Nat.le_of_ble_eq_true rfl) (Nat.le_of_ble_eq_true rfl) rfl hl.1 rfl (Nat.le_of_ble_eq_true rfl) dX3_readLine_14 (fun H locs X => ?_)
  refine lv_goto (tgt := 154) C.1.1 C.1.2.1 dX3_readLine_17 (by decide) ?_
  exact bX3_readLine_154 C O X (lv_sub hl [] rfl) hF
noncomputable def fX3_readLine_b0 (N : Nat) (S : gS) : Option (Int32 × gS) := bnd (fX8_isAtWord N 2 S) fun q1 => (if q1.1 = 0 then fX3_readLine_b20 N q1.2 else fX3_readLine_b12 N q1.2)
theorem bX3_readLine_0 {N : Nat} {S : gS} {H : Heap} {locs : List Loc} {ls : Array Slot} {o : Int32 × gS} (C : gC p s m args meth c cX3_readLine 1 RX3 none D (xtys cI cB cZ cQ) xord g Am) (O : xsO g cI cB cZ cQ Am aK aV) (X : gX D (xcell g cI cB cZ cQ) xord g S s H locs) (hl : lv_has ls 1 [(0, .ref (g 1))]) (hF : fX3_readLine_b0 N S = some o) : W p l e (rmd 70) s m args below meth c H locs 0 0 (gE below args s D (xtys cI cB cZ cQ) (xcell g cI cB cZ cQ) xord g none o.2) (F0 m 0 ls []) := by
  unfold fX3_readLine_b0 at hF
  refine lv_aload_n C.1.1 C.1.2.1 dX3_readLine_0 rfl (lv_at hl 0 rfl) ?_
  refine xg_X3_12 C O.1 X (k := 1) rfl (j := 2) rfl dX3_readLine_1 ?_
  refine s_ldc C (xs_sO O) (i := 2) rfl dX3_readLine_4 ?_
  obtain ⟨q1, hq1, hF⟩ := bnd_some hF
  refine x_callVi C X (k := 2) xv_X3_75 (rfl : xk 2 = 8) rfl rfl (by decide) (kX8_isAtWord O C.2.2.2.2.1 N 2 (rfl : sI 2 = true) S q1 hq1) (Nat.le_of_ble_eq_true rfl) (Nat.le_of_ble_eq_true rfl) (Nat.le_of_ble_eq_true rfl) (Nat.le_of_ble_eq_true rfl) rfl hl.1 rfl (Nat.le_of_ble_eq_true rfl) dX3_readLine_6 (fun H locs X => ?_)
  refine lv_if_eq (tgt := 20) C.1.1 C.1.2.1 dX3_readLine_9 (by decide) (fun h_z => ?_) (fun h_z => ?_)
  · rw [if_pos h_z] at hF
    exact bX3_readLine_20 C O X (lv_sub hl [0] rfl) hF
  · rw [if_neg h_z] at hF
    exact bX3_readLine_12 C O X (lv_sub hl [0] rfl) hF
noncomputable def fX3_readLine (N : Nat) (S : gS) : Option (Int32 × gS) := fX3_readLine_b0 N S
theorem kX3_readLine {l : Launch} {D : va_G} {g : Nat → Nat} {cI cB cZ cQ : ClassId} {Am : (Nat → Prop) → State → Heap → Prop} {aK aV : Nat → Nat} (O : xsO g cI cB cZ cQ Am aK aV) (P : gAm Am) (N : Nat) (S : gS) (o : Int32 × gS) (hF : fX3_readLine N S = some o) : gM l yX3_readLine cX3_readLine 1 none 70 D (xtys cI cB cZ cQ) (xcell g cI cB cZ cQ) xord g Am [.ref (g 1)] S none o.2 :=
  gM_of O.1.1 P (by decide) (Nat.le_of_ble_eq_true rfl) (fun p e s m args below meth c ls C X hl => bX3_readLine_0 C O X (lv_sub hl [0] rfl) hF)
-- X3.read
noncomputable def fX3_read_b67 (N : Nat) (S : gS) : Option (Int32 × gS) := some (S 1 2, S)
theorem bX3_read_67 {N : Nat} {S : gS} {H : Heap} {locs : List Loc} {ls : Array Slot} {o : Int32 × gS} (C : gC p s m args meth c cX3_read 3 RX3 ((some .int)) D (xtys cI cB cZ cQ) xord g Am) (O : xsO g cI cB cZ cQ Am aK aV) (X : gX D (xcell g cI cB cZ cQ) xord g S s H locs) (hl : lv_has ls 3 [(0, .ref (g 1))]) (hF : fX3_read_b67 N S = some o) : W p l e (rmd 71) s m args below meth c H locs 0 0 (gE below args s D (xtys cI cB cZ cQ) (xcell g cI cB cZ cQ) xord g (some (.int o.1)) o.2) (F0 m 67 ls []) := by
  unfold fX3_read_b67 at hF
  refine lv_aload_n C.1.1 C.1.2.1 dX3_read_67 rfl (lv_at hl 0 rfl) ?_
  refine xg_X3_25 C O.1 X (k := 1) rfl dX3_read_68 ?_
  cases hF
  exact g_iret C X dX3_read_71
noncomputable def fX3_read_b51 (N : Nat) (r27 : Int32 → gS → Option (Int32 × gS)) (x2 : Int32) (S : gS) : Option (Int32 × gS) := bnd (fX3_readLine N S) fun q1 => (bnd (fX3_skipSign N 59 q1.2) fun q2 => (r27 ((x2 + 1 : Int32)) q2.2))
theorem bX3_read_51 {N : Nat} {r27 : Int32 → gS → Option (Int32 × gS)} {x2 : Int32} {S : gS} {H : Heap} {locs : List Loc} {ls : Array Slot} {o : Int32 × gS} (C : gC p s m args meth c cX3_read 3 RX3 ((some .int)) D (xtys cI cB cZ cQ) xord g Am) (O : xsO g cI cB cZ cQ Am aK aV) (K27 : ∀ (x2 : Int32) (S : gS) (H : Heap) (locs : List Loc) (ls : Array Slot), gX D (xcell g cI cB cZ cQ) xord g S s H locs → lv_has ls 3 [(0, .ref (g 1)), (2, .int x2)] → r27 x2 S = some o → W p l e (rmd 71) s m args below meth c H locs 0 0 (gE below args s D (xtys cI cB cZ cQ) (xcell g cI cB cZ cQ) xord g (some (.int o.1)) o.2) (F0 m 27 ls [])) (X : gX D (xcell g cI cB cZ cQ) xord g S s H locs) (hl : lv_has ls 3 [(0, .ref (g 1)), (2, .int x2)]) (hF : fX3_read_b51 N r27 x2 S = some o) : W p l e (rmd 71) s m args below meth c H locs 0 0 (gE below args s D (xtys cI cB cZ cQ) (xcell g cI cB cZ cQ) xord g (some (.int o.1)) o.2) (F0 m 51 ls []) := by
  unfold fX3_read_b51 at hF
  refine lv_aload_n C.1.1 C.1.2.1 dX3_read_51 rfl (lv_at hl 0 rfl) ?_
  obtain ⟨q1, hq1, hF⟩ := bnd_some hF
  refine x_callV C X (k := 1) xv_X3_46 (rfl : xk 1 = 3) rfl rfl (by decide) (kX3_readLine O C.2.2.2.2.1 N S q1 hq1) (Nat.le_of_ble_eq_true rfl) (Nat.le_of_ble_eq_true rfl) (Nat.le_of_ble_eq_true rfl) (Nat.le_of_ble_eq_true rfl) rfl hl.1 rfl (Nat.le_of_ble_eq_true rfl) dX3_read_52 (fun H locs X => ?_)
  refine lv_aload_n C.1.1 C.1.2.1 dX3_read_55 rfl (lv_at hl 0 rfl) ?_
  refine lv_bipush (v := 59) C.1.1 C.1.2.1 dX3_read_56 (by decide) ?_
  obtain ⟨q2, hq2, hF⟩ := bnd_some hF
  refine x_callV C X (k := 1) xv_X3_49 (rfl : xk 1 = 3) rfl rfl (by decide) (kX3_skipSign O C.2.2.2.2.1 N 59 q1.2 q2 hq2) (Nat.le_of_ble_eq_true rfl) (Nat.le_of_ble_eq_true rfl) (Nat.le_of_ble_eq_true rfl) (Nat.le_of_ble_eq_true rfl) rfl hl.1 rfl (Nat.le_of_ble_eq_true rfl) dX3_read_58 (fun H locs X => ?_)
  refine lv_iinc (v := (x2 + 1 : Int32)) (lv' := [(2, .int ((x2 + 1 : Int32))), (0, .ref (g 1))]) C.1.1 C.1.2.1 dX3_read_61 hl (k := 1) rfl rfl (by decide) rfl (fun ls hl => ?_)
  refine lv_goto (tgt := 27) C.1.1 C.1.2.1 dX3_read_64 (by decide) ?_
  exact K27 _ _ _ _ _ X (lv_sub hl [1, 0] rfl) hF
noncomputable def fX3_read_b41 (N : Nat) (r27 : Int32 → gS → Option (Int32 × gS)) (x2 : Int32) (S : gS) : Option (Int32 × gS) := if (S 2 4) = 0 then fX3_read_b67 N S else fX3_read_b51 N r27 x2 S
theorem bX3_read_41 {N : Nat} {r27 : Int32 → gS → Option (Int32 × gS)} {x2 : Int32} {S : gS} {H : Heap} {locs : List Loc} {ls : Array Slot} {o : Int32 × gS} (C : gC p s m args meth c cX3_read 3 RX3 ((some .int)) D (xtys cI cB cZ cQ) xord g Am) (O : xsO g cI cB cZ cQ Am aK aV) (K27 : ∀ (x2 : Int32) (S : gS) (H : Heap) (locs : List Loc) (ls : Array Slot), gX D (xcell g cI cB cZ cQ) xord g S s H locs → lv_has ls 3 [(0, .ref (g 1)), (2, .int x2)] → r27 x2 S = some o → W p l e (rmd 71) s m args below meth c H locs 0 0 (gE below args s D (xtys cI cB cZ cQ) (xcell g cI cB cZ cQ) xord g (some (.int o.1)) o.2) (F0 m 27 ls [])) (X : gX D (xcell g cI cB cZ cQ) xord g S s H locs) (hl : lv_has ls 3 [(0, .ref (g 1)), (2, .int x2)]) (hF : fX3_read_b41 N r27 x2 S = some o) : W p l e (rmd 71) s m args below meth c H locs 0 0 (gE below args s D (xtys cI cB cZ cQ) (xcell g cI cB cZ cQ) xord g (some (.int o.1)) o.2) (F0 m 41 ls []) := by
  unfold fX3_read_b41 at hF
  refine lv_aload_n C.1.1 C.1.2.1 dX3_read_41 rfl (lv_at hl 0 rfl) ?_
  refine xg_X3_12 C O.1 X (k := 1) rfl (j := 2) rfl dX3_read_42 ?_
  refine xg_X3_43 C O.1 X (k := 2) rfl dX3_read_45 ?_
  refine lv_if_eq (tgt := 67) C.1.1 C.1.2.1 dX3_read_48 (by decide) (fun h_z => ?_) (fun h_z => ?_)
  · rw [if_pos h_z] at hF
    exact bX3_read_67 C O X (lv_sub hl [0] rfl) hF
  · rw [if_neg h_z] at hF
    exact bX3_read_51 C O K27 X (lv_sub hl [0, 1] rfl) hF
noncomputable def fX3_read_b34 (N : Nat) (r27 : Int32 → gS → Option (Int32 × gS)) (x2 : Int32) (S : gS) : Option (Int32 × gS) := bnd (fX3_isFine N S) fun q1 => (if q1.1 = 0 then fX3_read_b67 N q1.2 else fX3_read_b41 N r27 x2 q1.2)
theorem bX3_read_34 {N : Nat} {r27 : Int32 → gS → Option (Int32 × gS)} {x2 : Int32} {S : gS} {H : Heap} {locs : List Loc} {ls : Array Slot} {o : Int32 × gS} (C : gC p s m args meth c cX3_read 3 RX3 ((some .int)) D (xtys cI cB cZ cQ) xord g Am) (O : xsO g cI cB cZ cQ Am aK aV) (K27 : ∀ (x2 : Int32) (S : gS) (H : Heap) (locs : List Loc) (ls : Array Slot), gX D (xcell g cI cB cZ cQ) xord g S s H locs → lv_has ls 3 [(0, .ref (g 1)), (2, .int x2)] → r27 x2 S = some o → W p l e (rmd 71) s m args below meth c H locs 0 0 (gE below args s D (xtys cI cB cZ cQ) (xcell g cI cB cZ cQ) xord g (some (.int o.1)) o.2) (F0 m 27 ls [])) (X : gX D (xcell g cI cB cZ cQ) xord g S s H locs) (hl : lv_has ls 3 [(0, .ref (g 1)), (2, .int x2)]) (hF : fX3_read_b34 N r27 x2 S = some o) : W p l e (rmd 71) s m args below meth c H locs 0 0 (gE below args s D (xtys cI cB cZ cQ) (xcell g cI cB cZ cQ) xord g (some (.int o.1)) o.2) (F0 m 34 ls []) := by
  unfold fX3_read_b34 at hF
  refine lv_aload_n C.1.1 C.1.2.1 dX3_read_34 rfl (lv_at hl 0 rfl) ?_
  obtain ⟨q1, hq1, hF⟩ := bnd_some hF
  refine x_callVi C X (k := 1) xv_X3_39 (rfl : xk 1 = 3) rfl rfl (by decide) (kX3_isFine O.1 C.2.2.2.2.1 N S q1 hq1) (Nat.le_of_ble_eq_true rfl) (Nat.le_of_ble_eq_true rfl) (Nat.le_of_ble_eq_true rfl) (Nat.le_of_ble_eq_true rfl) rfl hl.1 rfl (Nat.le_of_ble_eq_true rfl) dX3_read_35 (fun H locs X => ?_)
  refine lv_if_eq (tgt := 67) C.1.1 C.1.2.1 dX3_read_38 (by decide) (fun h_z => ?_) (fun h_z => ?_)
  · rw [if_pos h_z] at hF
    exact bX3_read_67 C O X (lv_sub hl [0] rfl) hF
  · rw [if_neg h_z] at hF
    exact bX3_read_41 C O K27 X (lv_sub hl [0, 1] rfl) hF
noncomputable def fX3_read_b27 (N : Nat) (r27 : Int32 → gS → Option (Int32 × gS)) (x2 : Int32) (S : gS) : Option (Int32 × gS) := if 700 ≤ x2 then fX3_read_b67 N S else fX3_read_b34 N r27 x2 S
theorem bX3_read_27 {N : Nat} {r27 : Int32 → gS → Option (Int32 × gS)} {x2 : Int32} {S : gS} {H : Heap} {locs : List Loc} {ls : Array Slot} {o : Int32 × gS} (C : gC p s m args meth c cX3_read 3 RX3 ((some .int)) D (xtys cI cB cZ cQ) xord g Am) (O : xsO g cI cB cZ cQ Am aK aV) (K27 : ∀ (x2 : Int32) (S : gS) (H : Heap) (locs : List Loc) (ls : Array Slot), gX D (xcell g cI cB cZ cQ) xord g S s H locs → lv_has ls 3 [(0, .ref (g 1)), (2, .int x2)] → r27 x2 S = some o → W p l e (rmd 71) s m args below meth c H locs 0 0 (gE below args s D (xtys cI cB cZ cQ) (xcell g cI cB cZ cQ) xord g (some (.int o.1)) o.2) (F0 m 27 ls [])) (X : gX D (xcell g cI cB cZ cQ) xord g S s H locs) (hl : lv_has ls 3 [(0, .ref (g 1)), (2, .int x2)]) (hF : fX3_read_b27 N r27 x2 S = some o) : W p l e (rmd 71) s m args below meth c H locs 0 0 (gE below args s D (xtys cI cB cZ cQ) (xcell g cI cB cZ cQ) xord g (some (.int o.1)) o.2) (F0 m 27 ls []) := by
  unfold fX3_read_b27 at hF
  refine lv_iload_n C.1.1 C.1.2.1 dX3_read_27 rfl (lv_at hl 1 rfl) ?_
  refine lv_sipush (v := 700) C.1.1 C.1.2.1 dX3_read_28 (by decide) ?_
  refine lv_icmp_ge (tgt := 67) C.1.1 C.1.2.1 dX3_read_31 (by decide) (fun h_z => ?_) (fun h_z => ?_)
  · rw [if_pos h_z] at hF
    exact bX3_read_67 C O X (lv_sub hl [0] rfl) hF
  · rw [if_neg h_z] at hF
    exact bX3_read_34 C O K27 X (lv_sub hl [0, 1] rfl) hF
noncomputable def fX3_read_h27 (N : Nat) : Nat → Int32 → gS → Option (Int32 × gS)
  | 0, _, _ => none
  | n + 1, x2, S => fX3_read_b27 N (fX3_read_h27 N n) x2 S
theorem hX3_read_27 {N : Nat} {o : Int32 × gS} (C : gC p s m args meth c cX3_read 3 RX3 ((some .int)) D (xtys cI cB cZ cQ) xord g Am) (O : xsO g cI cB cZ cQ Am aK aV) : ∀ (n : Nat) (x2 : Int32) (S : gS) (H : Heap) (locs : List Loc) (ls : Array Slot), gX D (xcell g cI cB cZ cQ) xord g S s H locs → lv_has ls 3 [(0, .ref (g 1)), (2, .int x2)] → fX3_read_h27 N n x2 S = some o → W p l e (rmd 71) s m args below meth c H locs 0 0 (gE below args s D (xtys cI cB cZ cQ) (xcell g cI cB cZ cQ) xord g (some (.int o.1)) o.2) (F0 m 27 ls []) := by
  intro n
  induction n with
  | zero =>
    intro x2 S H locs ls X hl hF
    exact absurd (show (none : Option (Int32 × gS)) = some o from hF) (by simp)
  | succ n ih =>
    intro x2 S H locs ls X hl hF
    have hF : fX3_read_b27 N (fX3_read_h27 N n) x2 S = some o := hF
    exact bX3_read_27 C O ih X hl hF
noncomputable def fX3_read_b0 (N : Nat) (x1 : Int32) (S : gS) : Option (Int32 × gS) := lt (xdr S) fun T1 => (bnd (fX9_clear N T1 S) fun q1 => (lt (sU q1.2 1 2 0) fun S1 => (lt (sU S1 1 3 ((-1))) fun S2 => (bnd (fX8_open N x1 S2) fun q2 => (fX3_read_h27 N N 0 q2.2)))))
theorem bX3_read_0 {N : Nat} {x1 : Int32} {S : gS} {H : Heap} {locs : List Loc} {ls : Array Slot} {o : Int32 × gS} (C : gC p s m args meth c cX3_read 3 RX3 ((some .int)) D (xtys cI cB cZ cQ) xord g Am) (O : xsO g cI cB cZ cQ Am aK aV) (X : gX D (xcell g cI cB cZ cQ) xord g S s H locs) (hl : lv_has ls 3 [(0, .ref (g 1)), (1, .int x1)]) (hF : fX3_read_b0 N x1 S = some o) : W p l e (rmd 71) s m args below meth c H locs 0 0 (gE below args s D (xtys cI cB cZ cQ) (xcell g cI cB cZ cQ) xord g (some (.int o.1)) o.2) (F0 m 0 ls []) := by
  unfold fX3_read_b0 at hF
  refine lv_aload_n C.1.1 C.1.2.1 dX3_read_0 rfl (lv_at hl 0 rfl) ?_
  obtain ⟨T1, eT1, hF⟩ := lt_some hF
  have hk_T1 := xdr_k eT1
  refine xg_X3_21 C O.1 X (T := T1) eT1 (k := 1) rfl dX3_read_1 ?_
  obtain ⟨q1, hq1, hF⟩ := bnd_some hF
  refine x_callV C X (k := T1) xv_X3_32 hk_T1 rfl rfl (by decide) (kX9_clear O.1 C.2.2.2.2.1 N T1 (hk_T1 : xk T1 = 9) S q1 hq1) (Nat.le_of_ble_eq_true rfl) (Nat.le_of_ble_eq_true rfl) (Nat.le_of_ble_eq_true rfl) (Nat.le_of_ble_eq_true rfl) rfl hl.1 rfl (Nat.le_of_ble_eq_true rfl) dX3_read_4 (fun H locs X => ?_)
  refine lv_aload_n C.1.1 C.1.2.1 dX3_read_7 rfl (lv_at hl 0 rfl) ?_
  refine lv_iconst (v := 0) C.1.1 C.1.2.1 dX3_read_8 (by decide) ?_
  obtain ⟨S1, eS1, hF⟩ := lt_some hF
  refine xp_X3_25 C O.1 X (k := 1) rfl eS1 dX3_read_9 (fun H locs X => ?_)
  refine lv_aload_n C.1.1 C.1.2.1 dX3_read_12 rfl (lv_at hl 0 rfl) ?_
  refine lv_iconst (v := (-1)) C.1.1 C.1.2.1 dX3_read_13 (by decide) ?_
  obtain ⟨S2, eS2, hF⟩ := lt_some hF
  refine xp_X3_29 C O.1 X (k := 1) rfl eS2 dX3_read_14 (fun H locs X => ?_)
  refine lv_aload_n C.1.1 C.1.2.1 dX3_read_17 rfl (lv_at hl 0 rfl) ?_
  refine xg_X3_12 C O.1 X (k := 1) rfl (j := 2) rfl dX3_read_18 ?_
  refine lv_iload_n C.1.1 C.1.2.1 dX3_read_21 rfl (lv_at hl 1 rfl) ?_
  obtain ⟨q2, hq2, hF⟩ := bnd_some hF
  refine x_callV C X (k := 2) xv_X3_35 (rfl : xk 2 = 8) rfl rfl (by decide) (kX8_open O C.2.2.2.2.1 N x1 S2 q2 hq2) (Nat.le_of_ble_eq_true rfl) (Nat.le_of_ble_eq_true rfl) (Nat.le_of_ble_eq_true rfl) (Nat.le_of_ble_eq_true rfl) rfl hl.1 rfl (Nat.le_of_ble_eq_true rfl) dX3_read_22 (fun H locs X => ?_)
  refine lv_iconst (v := 0) C.1.1 C.1.2.1 dX3_read_25 (by decide) ?_
  refine lv_istore_n (lv' := [(2, .int 0), (0, .ref (g 1)), (1, .int x1)]) C.1.1 C.1.2.1 dX3_read_26 rfl hl (by decide) rfl (fun ls hl => ?_)
  exact hX3_read_27 C O N _ _ _ _ _ X (lv_sub hl [1, 0] rfl) hF
noncomputable def fX3_read (N : Nat) (x1 : Int32) (S : gS) : Option (Int32 × gS) := fX3_read_b0 N x1 S
theorem kX3_read {l : Launch} {D : va_G} {g : Nat → Nat} {cI cB cZ cQ : ClassId} {Am : (Nat → Prop) → State → Heap → Prop} {aK aV : Nat → Nat} (O : xsO g cI cB cZ cQ Am aK aV) (P : gAm Am) (N : Nat) (x1 : Int32) (S : gS) (o : Int32 × gS) (hF : fX3_read N x1 S = some o) : gM l yX3_read cX3_read 3 ((some .int)) 71 D (xtys cI cB cZ cQ) (xcell g cI cB cZ cQ) xord g Am [.ref (g 1), .int x1] S (some (.int o.1)) o.2 :=
  gM_of O.1.1 P (by decide) (Nat.le_of_ble_eq_true rfl) (fun p e s m args below meth c ls C X hl => bX3_read_0 C O X (lv_sub hl [0, 1] rfl) hF)
end
end

/-! part 17.athr -/
section
/-! METHODS THAT MAY THROW: what they rest on, their contracts, their rows -/
noncomputable def rmx (d u : Nat) : Room := { frames := d, cells := u, slots := 6 * u, locals := 40 * d + 13 }
noncomputable def tE (n : Nat) : String := if n = 1 then "java/util/NoSuchElementException" else "java/lang/IllegalArgumentException"
noncomputable def tW : List Cond := [.castable "java/util/NoSuchElementException" "java/util/NoSuchElementException", .castable "java/lang/IllegalArgumentException" "java/lang/IllegalArgumentException", .declares ⟨"java/lang/RuntimeException", "<init>", "(Ljava/lang/String;)V"⟩, .declares ⟨"java/lang/Exception", "<init>", "(Ljava/lang/String;)V"⟩, .declares ⟨"java/lang/Throwable", "<init>", "(Ljava/lang/String;)V"⟩]
def tAll (A : Nat → Prop) (U : State) (H : Heap) : Prop := (∀ w ∈ tW, va_Nw w U) ∧ vx_Zq Bundle.tN "UNASSIGNED_STACK" Bundle.steD A U H ∧ vx_Zq Bundle.tN "SUPPRESSED_SENTINEL" Bundle.listD A U H
theorem tAll.on {A B : Nat → Prop} {s U : State} {H : Heap} (hW : s.WarmedH U.vm) (h : tAll A s s.heap) (hq : ∀ q : Nat, q < s.heap.size → ¬ A q → H[q]? = s.heap[q]?) (hAB : ∀ q, B q → A q) : tAll B U H := by
  refine ⟨?_, ((vx_Zq.moved hW.alike h.2.1).kept hq).narrow hAB, ((vx_Zq.moved hW.alike h.2.2).kept hq).narrow hAB⟩
  intro w hw
  have h1 := h.1 w hw
  simp only [tW, List.mem_cons, List.not_mem_nil, or_false] at hw
  rcases hw with rfl | rfl | rfl | rfl | rfl
  · exact va_Nw.warmC hW h1
  · exact va_Nw.warmC hW h1
  · exact va_Nw.warmD hW h1
  · exact va_Nw.warmD hW h1
  · exact va_Nw.warmD hW h1
def tO (l : Launch) (g : Nat → Nat) (cI cB cZ cQ : ClassId) (Am : (Nat → Prop) → State → Heap → Prop) (aK aV : Nat → Nat) : Prop := xsO g cI cB cZ cQ Am aK aV ∧ (∀ (A : Nat → Prop) (U : State) (H : Heap), Am A U H → tAll A U H) ∧ l.stackTraces = false
abbrev tR : Type := Nat × Int32 × gS
noncomputable def tv (vd : Bool) (x : Int32) : Option Value := match vd with
  | true => none
  | false => some (.int x)
def gXQ (D : va_G) (tys : List (ClassId × FieldType)) (cell : gS → Nat → Nat × va_E) (ord : List Nat) (adr : Nat → Nat) (sz : Nat) (vd : Bool) (o : tR) : Array Value → State → Outcome → State → Prop := fun a st oc t => o.1 = 0 ∧ gQ D tys cell ord adr sz (tv vd o.2.1) o.2.2 a st oc t
def gXX (D : va_G) (tys : List (ClassId × FieldType)) (cell : gS → Nat → Nat × va_E) (ord : List Nat) (adr : Nat → Nat) (sz : Nat) (o : tR) : String → State → State → Prop := fun E st t => o.1 ≠ 0 ∧ E = tE o.1 ∧ va_P D vwCl (gw cell ord o.2.2) t.heap ∧ va_K D vwCl tys t ∧ va_F (gA ord adr sz) st t
def gN (l : Launch) (y : MethodName) (cy : ByteArray) (mL : Nat) (rt : Option FieldType) (d u : Nat) (D : va_G) (tys : List (ClassId × FieldType)) (cell : gS → Nat → Nat × va_E) (ord : List Nat) (adr : Nat → Nat) (Am : (Nat → Prop) → State → Heap → Prop) (av : List Value) (S : gS) (vd : Bool) (o : tR) : Prop :=
  ∀ sz : Nat, vx_Met l y (Cond.code y cy mL rt :: gT) (rmx d u) (va_Pc av (fun U => U.heap.size = sz ∧ va_P D vwCl (gw cell ord S) U.heap ∧ va_K D vwCl tys U ∧ Am (gA ord adr sz) U U.heap)) (gXQ D tys cell ord adr sz vd o) (gXX D tys cell ord adr sz o) u (6 * u) (gA ord adr sz)
def gEX (below : List Frame) (args : Array Value) (s : State) (D : va_G) (tys : List (ClassId × FieldType)) (cell : gS → Nat → Nat × va_E) (ord : List Nat) (adr : Nat → Nat) (u : Nat) (vd : Bool) (o : tR) : State → Prop :=
  vx_MQ below (gXQ D tys cell ord adr s.heap.size vd o) (gXX D tys cell ord adr s.heap.size o) args s u (6 * u) (gA ord adr s.heap.size)
noncomputable def bnx {α : Type} (x : Option (Nat × α × gS)) (f : Nat × α × gS → Option tR) : Option tR := match x with
  | some a => if a.1 = 0 then f a else some (a.1, 0, a.2.2)
  | none => none
theorem bnx_some {α : Type} {x : Option (Nat × α × gS)} {f : Nat × α × gS → Option tR} {o : tR} (h : bnx x f = some o) : (∃ a, x = some a ∧ a.1 = 0 ∧ f a = some o) ∨ ∃ a, x = some a ∧ a.1 ≠ 0 ∧ o = (a.1, 0, a.2.2) := by
  cases x with
  | none => cases h
  | some a =>
    by_cases h0 : a.1 = 0
    · refine Or.inl ⟨a, rfl, h0, ?_⟩
      have h1 : (if a.1 = 0 then f a else some (a.1, 0, a.2.2)) = some o := h
      rewrite [if_pos h0] at h1
      exact h1
    · refine Or.inr ⟨a, rfl, h0, ?_⟩
      have h1 : (if a.1 = 0 then f a else some (a.1, 0, a.2.2)) = some o := h
      rewrite [if_neg h0] at h1
      exact (Option.some.inj h1).symm
section THR
variable {p : Program} {l : Launch} {e : Env} {R : Room} {s : State} {m : MethodId} {args : Array Value} {below : List Frame} {meth : Method} {c : Code} {H : Heap} {locs : List Loc} {cs sl : Nat} {Q : State → Prop} {Am : (Nat → Prop) → State → Heap → Prop}
variable {cc cy : ByteArray} {nL mL pc n index d u u2 : Nat} {own Cn : String} {ret rt : Option FieldType} {D : va_G} {tys : List (ClassId × FieldType)} {cell : gS → Nat → Nat × va_E} {ord : List Nat} {adr : Nat → Nat} {S S' : gS} {ls : Array Slot} {rest As av : List Value} {y : MethodName} {vd vd2 : Bool} {o : tR}
theorem gN_of (P : gAm Am) (hy : plainName y.cls = true) (hn : (lg_sl av).length ≤ mL)
    (hw : ∀ (p : Program) (e : Env) (s : State) (m : MethodId) (args : Array Value) (below : List Frame) (meth : Method) (c : Code) (ls : Array Slot), gC p s m args meth c cy mL y.cls rt D tys ord adr Am → (∀ x ∈ c.exceptionTable.toList, False) → gX D cell ord adr S s s.heap [] → lv_has ls mL (lv_args 0 av) →
      W p l e (rmx d u) s m args below meth c s.heap [] 0 0 (gEX below args s D tys cell ord adr u vd o) (F0 m 0 ls [])) : gN l y cy mL rt d u D tys cell ord adr Am av S vd o := by
  intro sz
  refine vx_ofW (cc := cy) (maxL := mL) (ret := rt) hy rfl ?_
  intro p e s m args below meth c s₁ B hml hT hv
  obtain ⟨rfl, hsz, hP, hK, hY⟩ := hv
  have hts := atoms_spec (ws := Cond.code y cy mL rt :: gT) B.pre
  subst hsz
  rw [lg_entry_eq]
  exact hw p e s m _ below meth c _ ⟨⟨B.exec, B.bytes, hml, findClass_of_methodNamed B.named, fun w h => hts w (List.mem_cons_of_mem _ h)⟩, hK, B.returns, B.notSynchronized, P, hY⟩ hT ⟨hP, va_S.rf⟩ (lv_entry av hn)
theorem t_iret (C : gC p s m args meth c cc nL own (some .int) D tys ord adr Am) (X : gX D cell ord adr S s H locs) {x : Int32} (h1 : cs ≤ u) (h2 : sl ≤ 6 * u) (hdg : decode cc pc = .ok (.ireturn, 1)) :
    W p l e R s m args below meth c H locs cs sl (gEX below args s D tys cell ord adr u false (0, x, S)) (F0 m pc ls [.int x]) :=
  vx_ret (W.widen (k := u) (n := 6 * u) h1 h2 (W.iret (v := x) C.1.1 C.1.2.1 C.2.2.1 (fun t ht hW => ⟨rfl, ⟨rfl, by rw [ht]; exact X.1, va_K.moved hW.alike C.2.1⟩, X.2.F ht⟩) X.2.2.2 hdg C.2.2.2.1))
theorem t_zret (C : gC p s m args meth c cc nL own (some .boolean) D tys ord adr Am) (X : gX D cell ord adr S s H locs) {x : Int32} (hz : zb x = true) (h1 : cs ≤ u) (h2 : sl ≤ 6 * u) (hdg : decode cc pc = .ok (.ireturn, 1)) :
    W p l e R s m args below meth c H locs cs sl (gEX below args s D tys cell ord adr u false (0, x, S)) (F0 m pc ls [.int x]) :=
  vx_ret (W.widen (k := u) (n := 6 * u) h1 h2 (W.zret (v := x) C.1.1 C.1.2.1 C.2.2.1 (zb_narrow hz) (fun t ht hW => ⟨rfl, ⟨rfl, by rw [ht]; exact X.1, va_K.moved hW.alike C.2.1⟩, X.2.F ht⟩) X.2.2.2 hdg C.2.2.2.1))
theorem t_vret (C : gC p s m args meth c cc nL own none D tys ord adr Am) (X : gX D cell ord adr S s H locs) (h1 : cs ≤ u) (h2 : sl ≤ 6 * u) (hdg : decode cc pc = .ok (.return_, 1)) :
    W p l e R s m args below meth c H locs cs sl (gEX below args s D tys cell ord adr u true (0, 0, S)) (F0 m pc ls []) :=
  vx_ret (W.widen (k := u) (n := 6 * u) h1 h2 (W.vret C.1.1 C.1.2.1 C.2.2.1 (fun t ht hW => ⟨rfl, ⟨rfl, by rw [ht]; exact X.1, va_K.moved hW.alike C.2.1⟩, X.2.F ht⟩) X.2.2.2 hdg C.2.2.2.1))
/-- a call that came back -/
theorem t_ok {mc ms : Nat} {st0 : List Value} {a : Array Value} (hr : vx_Run p l e R s m args below meth c H locs cs sl mc ms (F0 m pc ls st0) rest (gXQ D tys cell ord adr H.size vd o a) (gXX D tys cell ord adr H.size o) (gA ord adr H.size)) (ho : o.1 = 0) (X : gX D cell ord adr S s H locs)
    (kk : ∀ (H1 : Heap) (locs1 : List Loc), gX D cell ord adr o.2.2 s H1 locs1 → W p l e R s m args below meth c H1 locs1 (cs + mc) (sl + ms) Q (F0 m (pc + 3) ls ((tv vd o.2.1).toList ++ rest))) : W p l e R s m args below meth c H locs cs sl Q (F0 m pc ls st0) := by
  intro T hT X0
  have hAA : ∀ q, gA ord adr H.size q → gA ord adr s.heap.size q := fun q hq => hq.elim Or.inl (fun h => Or.inr (Nat.le_trans X.2.1 h))
  rcases hr T hT X0 with ⟨v', st₀, t, T', L, h0, X', hL, e1, e2, ⟨_, ⟨hv, hP, hK⟩, hz, hk⟩, st⟩ | ⟨q, st₀, t, T', L, E, ce, h0, X', hL, e1, e2, ⟨hn, _⟩, hce, hcv, hcl, st⟩
  · cases hv
    rewrite [h0] at hz hk
    obtain ⟨t2, a1, b1⟩ := kk T'.heap (locs ++ L) ⟨by rw [e1]; exact hP, Nat.le_trans X.2.1 (by rw [e1]; exact hz), fun q h1 h2 => by rw [e1, hk q (Nat.lt_of_lt_of_le h1 X.2.1) (fun z => h2 (hAA q z))]; exact X.2.2.1 q h1 h2, fun q hq => by
        rcases List.mem_append.mp hq with h | h
        · exact X.2.2.2 q h
        · exact hAA _ (hL q h)⟩ T' rfl X'
    exact ⟨t2, st t2 a1, b1⟩
  · exact absurd ho hn
/-- a call that threw: it goes on to the caller -/
theorem t_thr {mc ms : Nat} {st0 : List Value} {a : Array Value} (hr : vx_Run p l e R s m args below meth c H locs cs sl mc ms (F0 m pc ls st0) rest (gXQ D tys cell ord adr H.size vd o a) (gXX D tys cell ord adr H.size o) (gA ord adr H.size)) (ho : o.1 ≠ 0) (C : gC p s m args meth c cc nL own ret D tys ord adr Am) (Tb : ∀ x ∈ c.exceptionTable.toList, False) (X : gX D cell ord adr S s H locs) (h1 : cs + mc ≤ u) (h2 : sl + ms ≤ 6 * u) :
    W p l e R s m args below meth c H locs cs sl (gEX below args s D tys cell ord adr u vd2 (o.1, 0, o.2.2)) (F0 m pc ls st0) := by
  intro T hT X0
  have hAA : ∀ q, gA ord adr H.size q → gA ord adr s.heap.size q := fun q hq => hq.elim Or.inl (fun h => Or.inr (Nat.le_trans X.2.1 h))
  rcases hr T hT X0 with ⟨v', st₀, t, T', L, h0, X', hL, e1, e2, ⟨hn, _⟩, st⟩ | ⟨q, st₀, t, T', L, E, ce, h0, X', hL, e1, e2, ⟨hn, hE, hP, hK, hz, hk⟩, hce, hcv, hcl, st⟩
  · exact absurd hn ho
  · rewrite [h0] at hz hk
    have hS1 : va_S (gA ord adr s.heap.size) s.heap T'.heap (locs ++ L) := ⟨Nat.le_trans X.2.1 (by rw [e1]; exact hz), fun q h1 h2 => by rw [e1, hk q (Nat.lt_of_lt_of_le h1 X.2.1) (fun z => h2 (hAA q z))]; exact X.2.2.1 q h1 h2, fun q hq => by
        rcases List.mem_append.mp hq with h | h
        · exact X.2.2.2 q h
        · exact hAA _ (hL q h)⟩
    obtain ⟨t2, a1, b1⟩ := vx_out (Qc := gXQ D tys cell ord adr s.heap.size vd2 (o.1, 0, o.2.2)) (XC := gXX D tys cell ord adr s.heap.size (o.1, 0, o.2.2)) (free := gA ord adr s.heap.size) (ls := ls) (rest := rest) (fun x hx => (Tb x hx).elim) C.2.2.2.1 (by rw [e1]; exact hce) hcv hcl (fun t' ht' hA' => ⟨ho, hE, by rw [ht', e1]; exact hP, va_K.moved hA' C.2.1, hS1.F ht'⟩) hS1.2.2 h1 h2 T' rfl X'
    exact ⟨t2, st.trans a1, b1⟩
theorem t_preV (C : gC p s m args meth c cc nL own ret D tys ord adr Am) (X : gX D cell ord adr S s H locs) (w : gWV own index y cy mL rt n) {b q0 ci : Nat} {fs : List Value} {qc : vw_C} (hc : vwCl[ci]? = some qc) (hqc : qc.1 = y.cls) (he : (gw cell ord S)[q0]? = some (b, .inr (ci, fs)))
    (hM : gN l y cy mL rt d u2 D tys cell ord adr Am (.ref b :: As) S vd o) (hR : d + 1 ≤ R.frames) (hR2 : 8 + (mL + 11) + (40 * d + 13) ≤ R.locals) (hcs : cs + u2 ≤ R.cells) (hsl : sl + 6 * u2 ≤ R.slots) (hn : As.length = n) (hls : ls.size = nL) {st : List Value} (hst : st = As.reverse ++ .ref b :: rest) (hrest : (rest.map fun v => v.category).sum ≤ 8) (hdg : decode cc pc = .ok (.invokevirtual index, 3)) :
    vx_Run p l e R s m args below meth c H locs cs sl u2 (6 * u2) (F0 m pc ls st) rest (gXQ D tys cell ord adr H.size vd o (Value.ref b :: As).toArray) (gXX D tys cell ord adr H.size o) (gA ord adr H.size) := by
  subst hst
  refine vx_runV C.1 (hM H.size) (cwV n C.1.2.2.2.2 (gT_in (fun w' h => ?_)) rfl rfl rfl ⟨rfl, w.2.2.2.2.2⟩ ⟨hR, hR2⟩) ⟨(g_pre C X).1, ?_, (g_pre C X).2⟩ rfl hn hls rfl (lv_room hrest) hdg ⟨hcs, hsl⟩
  · unfold wsV at h
    rcases List.mem_append.mp h with h | h
    · simp only [List.mem_cons, List.not_mem_nil, or_false] at h
      rcases h with rfl | rfl | rfl | rfl
      · exact w.1
      · exact w.2.1
      · exact w.2.2.1
      · exact w.2.2.2.1
    · rcases List.mem_cons.mp h with rfl | h
      · exact w.2.2.2.2.1
      · exact h
  · have := va_recv C.2.1 X.1 hc he
    rewrite [hqc] at this
    exact this
theorem t_preS (C : gC p s m args meth c cc nL own ret D tys ord adr Am) (X : gX D cell ord adr S s H locs) (w : gWS own index y cy mL rt n)
    (hM : gN l y cy mL rt d u2 D tys cell ord adr Am As S vd o) (hR : d + 1 ≤ R.frames) (hR2 : 8 + (mL + 11) + (40 * d + 13) ≤ R.locals) (hcs : cs + u2 ≤ R.cells) (hsl : sl + 6 * u2 ≤ R.slots) (hn : As.length = n) (hls : ls.size = nL) {st : List Value} (hst : st = As.reverse ++ rest) (hrest : (rest.map fun v => v.category).sum ≤ 8) (hdg : decode cc pc = .ok (.invokestatic index, 3)) :
    vx_Run p l e R s m args below meth c H locs cs sl u2 (6 * u2) (F0 m pc ls st) rest (gXQ D tys cell ord adr H.size vd o As.toArray) (gXX D tys cell ord adr H.size o) (gA ord adr H.size) := by
  subst hst
  refine vx_runS C.1 (hM H.size) (cwS n C.1.2.2.2.2 (gT_in (fun w' h => ?_)) rfl rfl rfl ⟨w.2.2.2.2.1, w.2.2.2.2.2⟩ ⟨hR, hR2⟩) (g_pre C X) rfl hn hls rfl (lv_room hrest) hdg ⟨hcs, hsl⟩
  unfold wsS at h
  rcases List.mem_append.mp h with h | h
  · simp only [List.mem_cons, List.not_mem_nil, or_false] at h
    rcases h with rfl | rfl | rfl
    · exact w.1
    · exact w.2.1
    · exact w.2.2.1
  · rcases List.mem_cons.mp h with rfl | h
    · exact w.2.2.2.1
    · exact h
end THR
end

/-! part 17.bthr -/
section
/-! throwing: the two exceptions that the class makes -/
noncomputable def tNm : List String := ["java/lang/RuntimeException", "java/lang/Exception"]
set_option maxRecDepth 100000 in
theorem tg2K : ∀ w ∈ Bundle.ownAtoms RX11 86 "java/lang/IllegalArgumentException" tNm, vx_no w = true → goodWord w = true → w ∈ lw_tbl := by
  show ∀ w ∈ ([.initialized Bundle.tN, .superclass Bundle.tN "java/lang/Object", .instanceMethod Bundle.tFill, .codeSync Bundle.tFill LibCode.Throwable.Fill.code 1 (some (.object Bundle.tN)), .instanceMethod Bundle.tFill0, .native Bundle.tFill0, .instanceMethod Bundle.tInit0, .code Bundle.tInit0 LibCode.Throwable.Init0.code 1 none, .instanceMethod Bundle.oInit, .code Bundle.oInit ⟨#[0xb1]⟩ 1 none, .methodLink Bundle.tN 1 Bundle.oInit, .methodLink Bundle.tN 27 Bundle.tFill, .methodLink Bundle.tN 202 Bundle.tFill0, .fieldLink Bundle.tN 7 Bundle.tN "cause" "Ljava/lang/Throwable;", .lays Bundle.tN Bundle.tN "cause" "Ljava/lang/Throwable;", .fieldLink Bundle.tN 17 Bundle.tN "stackTrace" Bundle.steD, .lays Bundle.tN Bundle.tN "stackTrace" Bundle.steD, .fieldLink Bundle.tN 24 Bundle.tN "suppressedExceptions" Bundle.listD, .lays Bundle.tN Bundle.tN "suppressedExceptions" Bundle.listD, .fieldLink Bundle.tN 13 Bundle.tN "UNASSIGNED_STACK" Bundle.steD, .laysStatic Bundle.tN "UNASSIGNED_STACK" Bundle.steD, .fieldLink Bundle.tN 20 Bundle.tN "SUPPRESSED_SENTINEL" Bundle.listD, .laysStatic Bundle.tN "SUPPRESSED_SENTINEL" Bundle.listD, .lays Bundle.tN Bundle.tN "detailMessage" "Ljava/lang/String;", .instanceMethod (Bundle.initS Bundle.tN), .code (Bundle.initS Bundle.tN) LibCode.Throwable.InitS.code 2 none, .fieldLink Bundle.tN 31 Bundle.tN "detailMessage" "Ljava/lang/String;", .lays Bundle.tN Bundle.tN "detailMessage" "Ljava/lang/String;", .instanceMethod (Bundle.initS "java/lang/IllegalArgumentException"), .code (Bundle.initS "java/lang/IllegalArgumentException") Bundle.six 2 none, .methodLink "java/lang/IllegalArgumentException" 7 (Bundle.initS "java/lang/RuntimeException"), .instanceMethod (Bundle.initS "java/lang/RuntimeException"), .declares (Bundle.initS "java/lang/RuntimeException"), .instanceMethod (Bundle.initS "java/lang/RuntimeException"), .code (Bundle.initS "java/lang/RuntimeException") Bundle.six 2 none, .methodLink "java/lang/RuntimeException" 7 (Bundle.initS "java/lang/Exception"), .instanceMethod (Bundle.initS "java/lang/Exception"), .declares (Bundle.initS "java/lang/Exception"), .instanceMethod (Bundle.initS "java/lang/Exception"), .code (Bundle.initS "java/lang/Exception") Bundle.six 2 none, .methodLink "java/lang/Exception" 7 (Bundle.initS Bundle.tN), .instanceMethod (Bundle.initS Bundle.tN), .declares (Bundle.initS Bundle.tN), .methodLink RX11 86 (Bundle.initS "java/lang/IllegalArgumentException"), .instantiable "java/lang/IllegalArgumentException" 6, .castable "java/lang/IllegalArgumentException" "java/lang/IllegalArgumentException", .selects "java/lang/IllegalArgumentException" Bundle.tFill0 Bundle.tFill0, .selects "java/lang/IllegalArgumentException" Bundle.tFill Bundle.tFill, .lays "java/lang/IllegalArgumentException" Bundle.tN "cause" "Ljava/lang/Throwable;", .lays "java/lang/IllegalArgumentException" Bundle.tN "stackTrace" Bundle.steD, .lays "java/lang/IllegalArgumentException" Bundle.tN "suppressedExceptions" Bundle.listD, .lays "java/lang/IllegalArgumentException" Bundle.tN "detailMessage" "Ljava/lang/String;", .isRef (.static Bundle.tN "UNASSIGNED_STACK" Bundle.steD), .isRef (.static Bundle.tN "SUPPRESSED_SENTINEL" Bundle.listD), .fieldLink Bundle.tN 198 Bundle.tN "backtrace" "Ljava/lang/Object;", .lays Bundle.tN Bundle.tN "backtrace" "Ljava/lang/Object;", .lays "java/lang/IllegalArgumentException" Bundle.tN "backtrace" "Ljava/lang/Object;"] : List Cond), vx_no w = true → goodWord w = true → w ∈ lw_tbl
  exact List.forall_mem_cons.mpr ⟨fun _ _ => List.mem_append_right _ (lw_c1 14 rfl),
    List.forall_mem_cons.mpr ⟨fun _ _ => List.mem_append_right _ (lw_c3 135 rfl),
    List.forall_mem_cons.mpr ⟨fun _ _ => List.mem_append_right _ (lw_c3 144 rfl),
    List.forall_mem_cons.mpr ⟨fun _ _ => List.mem_append_right _ (lw_c3 147 rfl),
    List.forall_mem_cons.mpr ⟨fun _ _ => List.mem_append_right _ (lw_c3 150 rfl),
    List.forall_mem_cons.mpr ⟨fun _ _ => List.mem_append_right _ (lw_c3 152 rfl),
    List.forall_mem_cons.mpr ⟨fun _ _ => List.mem_append_right _ (lw_c3 136 rfl),
    List.forall_mem_cons.mpr ⟨fun _ _ => List.mem_append_right _ (lw_c3 137 rfl),
    List.forall_mem_cons.mpr ⟨fun _ _ => List.mem_append_right _ (lw_c1 33 rfl),
    List.forall_mem_cons.mpr ⟨fun _ _ => List.mem_append_right _ (lw_c1 34 rfl),
    List.forall_mem_cons.mpr ⟨fun _ _ => List.mem_append_right _ (lw_c3 138 rfl),
    List.forall_mem_cons.mpr ⟨fun _ _ => List.mem_append_right _ (lw_c3 143 rfl),
    List.forall_mem_cons.mpr ⟨fun _ _ => List.mem_append_right _ (lw_c3 148 rfl),
    List.forall_mem_cons.mpr ⟨fun _ _ => List.mem_append_right _ (lw_c3 168 rfl),
    List.forall_mem_cons.mpr ⟨fun _ _ => List.mem_append_right _ (lw_c3 125 rfl),
    List.forall_mem_cons.mpr ⟨fun _ _ => List.mem_append_right _ (lw_c3 169 rfl),
    List.forall_mem_cons.mpr ⟨fun _ _ => List.mem_append_right _ (lw_c3 127 rfl),
    List.forall_mem_cons.mpr ⟨fun _ _ => List.mem_append_right _ (lw_c3 170 rfl),
    List.forall_mem_cons.mpr ⟨fun _ _ => List.mem_append_right _ (lw_c3 129 rfl),
    List.forall_mem_cons.mpr ⟨fun _ _ => List.mem_append_right _ (lw_c3 139 rfl),
    List.forall_mem_cons.mpr ⟨fun h _ => absurd h (by decide +kernel),
    List.forall_mem_cons.mpr ⟨fun _ _ => List.mem_append_right _ (lw_c3 141 rfl),
    List.forall_mem_cons.mpr ⟨fun h _ => absurd h (by decide +kernel),
    List.forall_mem_cons.mpr ⟨fun _ _ => List.mem_append_right _ (lw_c3 131 rfl),
    List.forall_mem_cons.mpr ⟨fun _ _ => List.mem_append_right _ (lw_c3 164 rfl),
    List.forall_mem_cons.mpr ⟨fun _ _ => List.mem_append_right _ (lw_c3 165 rfl),
    List.forall_mem_cons.mpr ⟨fun _ _ => List.mem_append_right _ (lw_c3 167 rfl),
    List.forall_mem_cons.mpr ⟨fun _ _ => List.mem_append_right _ (lw_c3 131 rfl),
    List.forall_mem_cons.mpr ⟨fun _ _ => List.mem_append_right _ (lw_c3 155 rfl),
    List.forall_mem_cons.mpr ⟨fun _ _ => List.mem_append_right _ (lw_c3 156 rfl),
    List.forall_mem_cons.mpr ⟨fun _ _ => List.mem_append_right _ (lw_c3 157 rfl),
    List.forall_mem_cons.mpr ⟨fun _ _ => List.mem_append_right _ (lw_c3 158 rfl),
    List.forall_mem_cons.mpr ⟨fun _ _ => List.mem_append_right _ (lw_c3 117 rfl),
    List.forall_mem_cons.mpr ⟨fun _ _ => List.mem_append_right _ (lw_c3 158 rfl),
    List.forall_mem_cons.mpr ⟨fun _ _ => List.mem_append_right _ (lw_c3 159 rfl),
    List.forall_mem_cons.mpr ⟨fun _ _ => List.mem_append_right _ (lw_c3 160 rfl),
    List.forall_mem_cons.mpr ⟨fun _ _ => List.mem_append_right _ (lw_c3 161 rfl),
    List.forall_mem_cons.mpr ⟨fun _ _ => List.mem_append_right _ (lw_c3 119 rfl),
    List.forall_mem_cons.mpr ⟨fun _ _ => List.mem_append_right _ (lw_c3 161 rfl),
    List.forall_mem_cons.mpr ⟨fun _ _ => List.mem_append_right _ (lw_c3 162 rfl),
    List.forall_mem_cons.mpr ⟨fun _ _ => List.mem_append_right _ (lw_c3 163 rfl),
    List.forall_mem_cons.mpr ⟨fun _ _ => List.mem_append_right _ (lw_c3 164 rfl),
    List.forall_mem_cons.mpr ⟨fun _ _ => List.mem_append_right _ (lw_c3 121 rfl),
    List.forall_mem_cons.mpr ⟨fun _ _ => List.mem_append_right _ (lw_c3 154 rfl),
    List.forall_mem_cons.mpr ⟨fun _ _ => List.mem_append_right _ (lw_c3 114 rfl),
    List.forall_mem_cons.mpr ⟨fun _ _ => List.mem_append_right _ (lw_c3 115 rfl),
    List.forall_mem_cons.mpr ⟨fun _ _ => List.mem_append_right _ (lw_c3 122 rfl),
    List.forall_mem_cons.mpr ⟨fun _ _ => List.mem_append_right _ (lw_c3 123 rfl),
    List.forall_mem_cons.mpr ⟨fun _ _ => List.mem_append_right _ (lw_c3 124 rfl),
    List.forall_mem_cons.mpr ⟨fun _ _ => List.mem_append_right _ (lw_c3 126 rfl),
    List.forall_mem_cons.mpr ⟨fun _ _ => List.mem_append_right _ (lw_c3 128 rfl),
    List.forall_mem_cons.mpr ⟨fun _ _ => List.mem_append_right _ (lw_c3 130 rfl),
    List.forall_mem_cons.mpr ⟨fun h _ => absurd h (by decide +kernel),
    List.forall_mem_cons.mpr ⟨fun h _ => absurd h (by decide +kernel),
    List.forall_mem_cons.mpr ⟨fun _ _ => List.mem_append_right _ (lw_c3 134 rfl),
    List.forall_mem_cons.mpr ⟨fun _ _ => List.mem_append_right _ (lw_c3 133 rfl),
    List.forall_mem_cons.mpr ⟨fun _ _ => List.mem_append_right _ (lw_c3 132 rfl),
    fun _ h => nomatch h⟩⟩⟩⟩⟩⟩⟩⟩⟩⟩⟩⟩⟩⟩⟩⟩⟩⟩⟩⟩⟩⟩⟩⟩⟩⟩⟩⟩⟩⟩⟩⟩⟩⟩⟩⟩⟩⟩⟩⟩⟩⟩⟩⟩⟩⟩⟩⟩⟩⟩⟩⟩⟩⟩⟩⟩⟩
theorem tg2 : ∀ w ∈ (vx_atS RX11 86 "java/lang/IllegalArgumentException" tNm).filter goodWord, w ∈ lw_tbl := fun w h => tg2K w (List.mem_filter.mp (List.mem_filter.mp h).1).1 (List.mem_filter.mp (List.mem_filter.mp h).1).2 (List.mem_filter.mp h).2
noncomputable def tB : List Cond := tW ++ [.laysStatic Bundle.tN "UNASSIGNED_STACK" Bundle.steD, .laysStatic Bundle.tN "SUPPRESSED_SENTINEL" Bundle.listD]
theorem tb2 : ∀ w ∈ (vx_atS RX11 86 "java/lang/IllegalArgumentException" tNm).filter (fun w => !goodWord w), w ∈ tB := by decide +kernel
theorem to2 : ∀ w ∈ Cond.classLink RX11 82 "java/lang/IllegalArgumentException" :: Cond.initialized "java/lang/IllegalArgumentException" :: vx_atS RX11 86 "java/lang/IllegalArgumentException" tNm, vx_ot w = true := by decide +kernel
theorem tc1 : Cond.classLink RX11 157 "java/util/NoSuchElementException" ∈ gT ∧ Cond.initialized "java/util/NoSuchElementException" ∈ gT := ⟨gT_c4 214 rfl rfl, gT_c1 24 rfl rfl⟩
theorem tc2 : Cond.classLink RX11 82 "java/lang/IllegalArgumentException" ∈ gT ∧ Cond.initialized "java/lang/IllegalArgumentException" ∈ gT := ⟨gT_c3 113 rfl rfl, gT_c1 17 rfl rfl⟩
/-! 'new NoSuchElementException(text)': its constructor hands its text on by the link 13 (the kit's rows for throwing know links at 7 alone) -/
abbrev tNS : String := "java/util/NoSuchElementException"
abbrev tRT : String := "java/lang/RuntimeException"
noncomputable def tRx : ByteArray := ⟨#[0x2a, 0x2b, 0xb7, 0x00, 0x0d, 0xb1]⟩
/-- the words that one throw of it needs -/
noncomputable def tX : List Cond := Bundle.throwableAtoms ++ (Bundle.throwableSAtoms ++ (Bundle.passSAtoms tNS tRT 13 tRx ++ (Bundle.chainSAtoms tRT ["java/lang/Exception"] ++
  [.methodLink RX11 161 (Bundle.initS tNS), .instantiable tNS 6, .castable tNS tNS, .selects tNS Bundle.tFill0 Bundle.tFill0, .selects tNS Bundle.tFill Bundle.tFill,
   .lays tNS Bundle.tN "cause" "Ljava/lang/Throwable;", .lays tNS Bundle.tN "stackTrace" Bundle.steD, .lays tNS Bundle.tN "suppressedExceptions" Bundle.listD, .lays tNS Bundle.tN "detailMessage" "Ljava/lang/String;",
   .isRef (.static Bundle.tN "UNASSIGNED_STACK" Bundle.steD), .isRef (.static Bundle.tN "SUPPRESSED_SENTINEL" Bundle.listD),
   .fieldLink Bundle.tN 198 Bundle.tN "backtrace" "Ljava/lang/Object;", .lays Bundle.tN Bundle.tN "backtrace" "Ljava/lang/Object;", .lays tNS Bundle.tN "backtrace" "Ljava/lang/Object;"])))
theorem tX_1 {w : Cond} (h : w ∈ Bundle.throwableAtoms) : w ∈ tX := List.mem_append_left _ h
theorem tX_2 {w : Cond} (h : w ∈ Bundle.throwableSAtoms) : w ∈ tX := List.mem_append_right _ (List.mem_append_left _ h)
theorem tX_3 {w : Cond} (h : w ∈ Bundle.passSAtoms tNS tRT 13 tRx) : w ∈ tX := List.mem_append_right _ (List.mem_append_right _ (List.mem_append_left _ h))
theorem tX_4 {w : Cond} (h : w ∈ Bundle.chainSAtoms tRT ["java/lang/Exception"]) : w ∈ tX := List.mem_append_right _ (List.mem_append_right _ (List.mem_append_right _ (List.mem_append_left _ h)))
theorem tX_5 {w : Cond} (i : Nat) (h : ([.methodLink RX11 161 (Bundle.initS tNS), .instantiable tNS 6, .castable tNS tNS, .selects tNS Bundle.tFill0 Bundle.tFill0, .selects tNS Bundle.tFill Bundle.tFill,
   .lays tNS Bundle.tN "cause" "Ljava/lang/Throwable;", .lays tNS Bundle.tN "stackTrace" Bundle.steD, .lays tNS Bundle.tN "suppressedExceptions" Bundle.listD, .lays tNS Bundle.tN "detailMessage" "Ljava/lang/String;",
   .isRef (.static Bundle.tN "UNASSIGNED_STACK" Bundle.steD), .isRef (.static Bundle.tN "SUPPRESSED_SENTINEL" Bundle.listD),
   .fieldLink Bundle.tN 198 Bundle.tN "backtrace" "Ljava/lang/Object;", .lays Bundle.tN Bundle.tN "backtrace" "Ljava/lang/Object;", .lays tNS Bundle.tN "backtrace" "Ljava/lang/Object;"] : List Cond)[i]? = some w) : w ∈ tX := List.mem_append_right _ (List.mem_append_right _ (List.mem_append_right _ (List.mem_append_right _ (List.mem_of_getElem? h))))
set_option maxRecDepth 100000 in
theorem tg1K : ∀ w ∈ tX, vx_no w = true → goodWord w = true → w ∈ lw_tbl := by
  show ∀ w ∈ ([.initialized Bundle.tN, .superclass Bundle.tN "java/lang/Object", .instanceMethod Bundle.tFill, .codeSync Bundle.tFill LibCode.Throwable.Fill.code 1 (some (.object Bundle.tN)), .instanceMethod Bundle.tFill0, .native Bundle.tFill0, .instanceMethod Bundle.tInit0, .code Bundle.tInit0 LibCode.Throwable.Init0.code 1 none, .instanceMethod Bundle.oInit, .code Bundle.oInit ⟨#[0xb1]⟩ 1 none, .methodLink Bundle.tN 1 Bundle.oInit, .methodLink Bundle.tN 27 Bundle.tFill, .methodLink Bundle.tN 202 Bundle.tFill0, .fieldLink Bundle.tN 7 Bundle.tN "cause" "Ljava/lang/Throwable;", .lays Bundle.tN Bundle.tN "cause" "Ljava/lang/Throwable;", .fieldLink Bundle.tN 17 Bundle.tN "stackTrace" Bundle.steD, .lays Bundle.tN Bundle.tN "stackTrace" Bundle.steD, .fieldLink Bundle.tN 24 Bundle.tN "suppressedExceptions" Bundle.listD, .lays Bundle.tN Bundle.tN "suppressedExceptions" Bundle.listD, .fieldLink Bundle.tN 13 Bundle.tN "UNASSIGNED_STACK" Bundle.steD, .laysStatic Bundle.tN "UNASSIGNED_STACK" Bundle.steD, .fieldLink Bundle.tN 20 Bundle.tN "SUPPRESSED_SENTINEL" Bundle.listD, .laysStatic Bundle.tN "SUPPRESSED_SENTINEL" Bundle.listD, .lays Bundle.tN Bundle.tN "detailMessage" "Ljava/lang/String;", .instanceMethod (Bundle.initS Bundle.tN), .code (Bundle.initS Bundle.tN) LibCode.Throwable.InitS.code 2 none, .fieldLink Bundle.tN 31 Bundle.tN "detailMessage" "Ljava/lang/String;", .lays Bundle.tN Bundle.tN "detailMessage" "Ljava/lang/String;", .instanceMethod (Bundle.initS tNS), .code (Bundle.initS tNS) tRx 2 none, .methodLink tNS 13 (Bundle.initS tRT), .instanceMethod (Bundle.initS tRT), .declares (Bundle.initS tRT), .instanceMethod (Bundle.initS tRT), .code (Bundle.initS tRT) Bundle.six 2 none, .methodLink tRT 7 (Bundle.initS "java/lang/Exception"), .instanceMethod (Bundle.initS "java/lang/Exception"), .declares (Bundle.initS "java/lang/Exception"), .instanceMethod (Bundle.initS "java/lang/Exception"), .code (Bundle.initS "java/lang/Exception") Bundle.six 2 none, .methodLink "java/lang/Exception" 7 (Bundle.initS Bundle.tN), .instanceMethod (Bundle.initS Bundle.tN), .declares (Bundle.initS Bundle.tN), .methodLink RX11 161 (Bundle.initS tNS), .instantiable tNS 6, .castable tNS tNS, .selects tNS Bundle.tFill0 Bundle.tFill0, .selects tNS Bundle.tFill Bundle.tFill, .lays tNS Bundle.tN "cause" "Ljava/lang/Throwable;", .lays tNS Bundle.tN "stackTrace" Bundle.steD, .lays tNS Bundle.tN "suppressedExceptions" Bundle.listD, .lays tNS Bundle.tN "detailMessage" "Ljava/lang/String;", .isRef (.static Bundle.tN "UNASSIGNED_STACK" Bundle.steD), .isRef (.static Bundle.tN "SUPPRESSED_SENTINEL" Bundle.listD), .fieldLink Bundle.tN 198 Bundle.tN "backtrace" "Ljava/lang/Object;", .lays Bundle.tN Bundle.tN "backtrace" "Ljava/lang/Object;", .lays tNS Bundle.tN "backtrace" "Ljava/lang/Object;"] : List Cond), vx_no w = true → goodWord w = true → w ∈ lw_tbl
  exact List.forall_mem_cons.mpr ⟨fun _ _ => List.mem_append_right _ (lw_c1 14 rfl),
    List.forall_mem_cons.mpr ⟨fun _ _ => List.mem_append_right _ (lw_c3 135 rfl),
    List.forall_mem_cons.mpr ⟨fun _ _ => List.mem_append_right _ (lw_c3 144 rfl),
    List.forall_mem_cons.mpr ⟨fun _ _ => List.mem_append_right _ (lw_c3 147 rfl),
    List.forall_mem_cons.mpr ⟨fun _ _ => List.mem_append_right _ (lw_c3 150 rfl),
    List.forall_mem_cons.mpr ⟨fun _ _ => List.mem_append_right _ (lw_c3 152 rfl),
    List.forall_mem_cons.mpr ⟨fun _ _ => List.mem_append_right _ (lw_c3 136 rfl),
    List.forall_mem_cons.mpr ⟨fun _ _ => List.mem_append_right _ (lw_c3 137 rfl),
    List.forall_mem_cons.mpr ⟨fun _ _ => List.mem_append_right _ (lw_c1 33 rfl),
    List.forall_mem_cons.mpr ⟨fun _ _ => List.mem_append_right _ (lw_c1 34 rfl),
    List.forall_mem_cons.mpr ⟨fun _ _ => List.mem_append_right _ (lw_c3 138 rfl),
    List.forall_mem_cons.mpr ⟨fun _ _ => List.mem_append_right _ (lw_c3 143 rfl),
    List.forall_mem_cons.mpr ⟨fun _ _ => List.mem_append_right _ (lw_c3 148 rfl),
    List.forall_mem_cons.mpr ⟨fun _ _ => List.mem_append_right _ (lw_c3 168 rfl),
    List.forall_mem_cons.mpr ⟨fun _ _ => List.mem_append_right _ (lw_c3 125 rfl),
    List.forall_mem_cons.mpr ⟨fun _ _ => List.mem_append_right _ (lw_c3 169 rfl),
    List.forall_mem_cons.mpr ⟨fun _ _ => List.mem_append_right _ (lw_c3 127 rfl),
    List.forall_mem_cons.mpr ⟨fun _ _ => List.mem_append_right _ (lw_c3 170 rfl),
    List.forall_mem_cons.mpr ⟨fun _ _ => List.mem_append_right _ (lw_c3 129 rfl),
    List.forall_mem_cons.mpr ⟨fun _ _ => List.mem_append_right _ (lw_c3 139 rfl),
    List.forall_mem_cons.mpr ⟨fun h _ => absurd h (by decide +kernel),
    List.forall_mem_cons.mpr ⟨fun _ _ => List.mem_append_right _ (lw_c3 141 rfl),
    List.forall_mem_cons.mpr ⟨fun h _ => absurd h (by decide +kernel),
    List.forall_mem_cons.mpr ⟨fun _ _ => List.mem_append_right _ (lw_c3 131 rfl),
    List.forall_mem_cons.mpr ⟨fun _ _ => List.mem_append_right _ (lw_c3 164 rfl),
    List.forall_mem_cons.mpr ⟨fun _ _ => List.mem_append_right _ (lw_c3 165 rfl),
    List.forall_mem_cons.mpr ⟨fun _ _ => List.mem_append_right _ (lw_c3 167 rfl),
    List.forall_mem_cons.mpr ⟨fun _ _ => List.mem_append_right _ (lw_c3 131 rfl),
    List.forall_mem_cons.mpr ⟨fun _ _ => List.mem_append_right _ (lw_c4 225 rfl),
    List.forall_mem_cons.mpr ⟨fun _ _ => List.mem_append_right _ (lw_c4 226 rfl),
    List.forall_mem_cons.mpr ⟨fun _ _ => List.mem_append_right _ (lw_c4 227 rfl),
    List.forall_mem_cons.mpr ⟨fun _ _ => List.mem_append_right _ (lw_c3 158 rfl),
    List.forall_mem_cons.mpr ⟨fun _ _ => List.mem_append_right _ (lw_c3 117 rfl),
    List.forall_mem_cons.mpr ⟨fun _ _ => List.mem_append_right _ (lw_c3 158 rfl),
    List.forall_mem_cons.mpr ⟨fun _ _ => List.mem_append_right _ (lw_c3 159 rfl),
    List.forall_mem_cons.mpr ⟨fun _ _ => List.mem_append_right _ (lw_c3 160 rfl),
    List.forall_mem_cons.mpr ⟨fun _ _ => List.mem_append_right _ (lw_c3 161 rfl),
    List.forall_mem_cons.mpr ⟨fun _ _ => List.mem_append_right _ (lw_c3 119 rfl),
    List.forall_mem_cons.mpr ⟨fun _ _ => List.mem_append_right _ (lw_c3 161 rfl),
    List.forall_mem_cons.mpr ⟨fun _ _ => List.mem_append_right _ (lw_c3 162 rfl),
    List.forall_mem_cons.mpr ⟨fun _ _ => List.mem_append_right _ (lw_c3 163 rfl),
    List.forall_mem_cons.mpr ⟨fun _ _ => List.mem_append_right _ (lw_c3 164 rfl),
    List.forall_mem_cons.mpr ⟨fun _ _ => List.mem_append_right _ (lw_c3 121 rfl),
    List.forall_mem_cons.mpr ⟨fun _ _ => List.mem_append_right _ (lw_c4 224 rfl),
    List.forall_mem_cons.mpr ⟨fun _ _ => List.mem_append_right _ (lw_c4 215 rfl),
    List.forall_mem_cons.mpr ⟨fun _ _ => List.mem_append_right _ (lw_c4 216 rfl),
    List.forall_mem_cons.mpr ⟨fun _ _ => List.mem_append_right _ (lw_c4 217 rfl),
    List.forall_mem_cons.mpr ⟨fun _ _ => List.mem_append_right _ (lw_c3 146 rfl),
    List.forall_mem_cons.mpr ⟨fun _ _ => List.mem_append_right _ (lw_c4 218 rfl),
    List.forall_mem_cons.mpr ⟨fun _ _ => List.mem_append_right _ (lw_c4 219 rfl),
    List.forall_mem_cons.mpr ⟨fun _ _ => List.mem_append_right _ (lw_c4 220 rfl),
    List.forall_mem_cons.mpr ⟨fun _ _ => List.mem_append_right _ (lw_c4 221 rfl),
    List.forall_mem_cons.mpr ⟨fun h _ => absurd h (by decide +kernel),
    List.forall_mem_cons.mpr ⟨fun h _ => absurd h (by decide +kernel),
    List.forall_mem_cons.mpr ⟨fun _ _ => List.mem_append_right _ (lw_c3 134 rfl),
    List.forall_mem_cons.mpr ⟨fun _ _ => List.mem_append_right _ (lw_c3 133 rfl),
    List.forall_mem_cons.mpr ⟨fun _ _ => List.mem_append_right _ (lw_c4 222 rfl),
    fun _ h => nomatch h⟩⟩⟩⟩⟩⟩⟩⟩⟩⟩⟩⟩⟩⟩⟩⟩⟩⟩⟩⟩⟩⟩⟩⟩⟩⟩⟩⟩⟩⟩⟩⟩⟩⟩⟩⟩⟩⟩⟩⟩⟩⟩⟩⟩⟩⟩⟩⟩⟩⟩⟩⟩⟩⟩⟩⟩⟩
theorem tg1 : ∀ w ∈ (tX.filter vx_no).filter goodWord, w ∈ lw_tbl := fun w h => tg1K w (List.mem_filter.mp (List.mem_filter.mp h).1).1 (List.mem_filter.mp (List.mem_filter.mp h).1).2 (List.mem_filter.mp h).2
theorem tb1 : ∀ w ∈ (tX.filter vx_no).filter (fun w => !goodWord w), w ∈ tB := by decide +kernel
theorem to1 : ∀ w ∈ Cond.classLink RX11 157 tNS :: Cond.initialized tNS :: tX.filter vx_no, vx_ot w = true := by decide +kernel
section TCTOR
variable {p : Program} {l : Launch} {e : Env} {R : Room} {s : State} {m₀ : MethodId} {args : Array Value} {below : List Frame} {meth : Method} {c : Code} {W0 : State} {locs : List Loc} {cells slots : Nat}
set_option maxHeartbeats 1000000 in
theorem t_ctor (X : Stand p l e R s m₀ args below meth c W0 locs cells slots) (hexec : p.tables.exec = Jvm.exec) (htr : e.platform.stackTraces = false)
    (hown : s.vm.findClass RX11 = some m₀.cls) (h : ∀ a ∈ tX, a.before args s = true) (hlocs : ∀ x ∈ locs, ∀ cell, s.heap[x.base]? = some cell → cell.vm.isStatics = false)
    {a : Addr} {cX : ClassId} {kX : Class} (hfoundX : s.vm.findClass tNS = some cX) (hkX : s.vm.classes[cX]? = some kX) (hcell : W0.heap[a]? = some (freshCell cX kX)) (hnew : s.heap.size ≤ a)
    {msg : Value} (hmsg : msg.isRef = true) {g : JFrame} (hg : g.method = m₀) (hsize : g.locals.size = c.maxLocals) (hlocked : g.locked = none) (hentered : g.entered = []) {rest : List Value} (hstack : g.stack = msg :: .ref a :: .ref a :: rest)
    (hd6 : decode c.code g.pc = .ok (.invokespecial 161, 3)) (hd9 : decode c.code (g.pc + 3) = .ok (.athrow, 1)) (hout : ∀ x ∈ c.exceptionTable.toList, covers x (g.pc + 3) = false)
    (hRframes : 5 < R.frames) (hRlocals : 2 * g.monitorRoom + ((Value.ref a :: rest).map fun v => v.category).sum + 81 ≤ R.locals) (hlocks : meth.locks = false) :
    ∃ U : State, Steps p.tables e below (W0.setTop g) U ∧ U.status = .running ∧ Ended U below (.threw a) ∧ s.WarmedH U.vm ∧ s.sameButNew ({ U with vm := s.vm } : State) locs cells slots ∧ ∃ ce, U.heap[a]? = some ce ∧ ce.vm = .none ∧ s.vm.findClass tNS = some ce.cls := by
  have howns : e.platform.frameOwnsMonitors = true := by rw [X.admits.platform]
  have hfin : e.platform.finalization = false := by rw [X.admits.platform]
  have hpl : e.platform.magicAccessors = ({} : Platform).magicAccessors := by rw [X.admits.platform]
  obtain ⟨T, Z0, L, -, Y⟩ := ThrowableC.of_atoms (args := args) howns hfin hpl (fun x hx => h x (tX_1 hx))
  obtain ⟨Z, M, LZ, LM, hnZ⟩ := Init0T.ofS_atoms (args := args) hpl L Y (fun x hx => h x (tX_2 hx))
  obtain ⟨P1, L1, hP1m, hP1s⟩ := PassC.ofS_atoms (args := args) (s := s) hpl (X := tNS) (Y := tRT) (by decide) (by decide) (bytes := tRx) (index := 13) (by decide +kernel) (by decide +kernel) (by decide +kernel) (by decide +kernel) (fun x hx => h x (tX_3 hx))
  obtain ⟨P2, Ps, hlen, L2, hL, hP2m, hlink2, hlink⟩ := Bundle.chainS (args := args) hpl hnZ ["java/lang/Exception"] tRT (by decide) (by decide) (fun x hx => h x (tX_4 hx))
  have hlink1 : P1.sup = P2.m := Option.some.inj (hP1s.symm.trans hP2m)
  have hfound : s.vm.findClass tNS = some P1.m.cls := findClass_of_methodNamed hP1m
  cases Option.some.inj (hfoundX.symm.trans hfound)
  obtain ⟨c1, kX', hc1, hk, hord, -, -, hn6⟩ := Cond.instantiable_spec (h (.instantiable tNS 6) (tX_5 1 rfl))
  cases Option.some.inj (hc1.symm.trans hfound)
  cases Option.some.inj (hkX.symm.trans hk)
  have hsel0 : selectMethod e.platform s.vm P1.m.cls T.fill0 = .method T.fill0 := by
    obtain ⟨c2, r2, m2, q1, q2, q3, q4, -⟩ := Cond.selects_spec (h (.selects tNS Bundle.tFill0 Bundle.tFill0) (tX_5 3 rfl))
    cases Option.some.inj (q1.symm.trans hfound)
    cases Option.some.inj (q2.symm.trans (State.methodFound?_of_named Y.fill0 (by decide)))
    cases Option.some.inj (q3.symm.trans Y.fill0)
    rw [Launch.admits_selectMethod X.admits]; exact q4
  have hselF : selectMethod e.platform s.vm P1.m.cls T.fill = .method T.fill := by
    obtain ⟨c2, r2, m2, q1, q2, q3, q4, -⟩ := Cond.selects_spec (h (.selects tNS Bundle.tFill Bundle.tFill) (tX_5 4 rfl))
    cases Option.some.inj (q1.symm.trans hfound)
    cases Option.some.inj (q2.symm.trans (State.methodFound?_of_named Y.fill (by decide)))
    cases Option.some.inj (q3.symm.trans Y.fill)
    rw [Launch.admits_selectMethod X.admits]; exact q4
  obtain ⟨cellS0, hcS0, hiss⟩ := Y.statics
  obtain ⟨u0, hu0⟩ := Cond.staticRefV Y.unassigned L.unassignedStatic L.statics hcS0 hiss (h (.isRef (.static Bundle.tN "UNASSIGNED_STACK" Bundle.steD)) (tX_5 9 rfl))
  obtain ⟨sen, hsen⟩ := Cond.staticRefV Y.sentinel L.sentinelStatic L.statics hcS0 hiss (h (.isRef (.static Bundle.tN "SUPPRESSED_SENTINEL" Bundle.listD)) (tX_5 10 rfl))
  obtain ⟨ci198, i198, fB, hk198, hg198, ha198, hsB, -, hnB, htB, hffB⟩ := Cond.ownField (t := .object "java/lang/Object") Y.found L.cls (by decide +kernel) (h (.fieldLink Bundle.tN 198 Bundle.tN "backtrace" "Ljava/lang/Object;") (tX_5 11 rfl)) (h (.lays Bundle.tN Bundle.tN "backtrace" "Ljava/lang/Object;") (tX_5 12 rfl)) e.platform hpl
  obtain ⟨cellS, hcS', heS, -, hkeep⟩ := X.same.2.2.2.2.2 T.aS cellS0 hcS0
  have hcellS : W0.heap[T.aS]? = some cellS := hcS'
  have hout' : ∀ i, (⟨T.aS, i⟩ : Loc) ∉ locs := fun i hmem => by
    have := hlocs _ hmem cellS0 hcS0
    rewrite [hiss] at this; cases this
  have hknownS : cellS.vm ≠ .unknown := by
    rw [heS]; intro hu
    rewrite [show cellS0.vm = .unknown from hu] at hiss
    cases hiss
  have hneS : T.aS ≠ a := Nat.ne_of_lt (Nat.lt_of_lt_of_le (Array.getElem?_eq_some_iff.mp hcS0).1 hnew)
  obtain ⟨iM, hffM⟩ := Y.msg
  obtain ⟨tyC, dC, hdC, hdnC⟩ := Cond.laysAt hfound hk Y.cause (h (.lays tNS Bundle.tN "cause" "Ljava/lang/Throwable;") (tX_5 5 rfl))
  obtain ⟨tyS, dS, hdS, hdnS⟩ := Cond.laysAt hfound hk Y.stack (h (.lays tNS Bundle.tN "stackTrace" Bundle.steD) (tX_5 6 rfl))
  obtain ⟨tyP, dP, hdP, hdnP⟩ := Cond.laysAt hfound hk Y.supp (h (.lays tNS Bundle.tN "suppressedExceptions" Bundle.listD) (tX_5 7 rfl))
  obtain ⟨tyM, dM, hdM, hdnM⟩ := Cond.laysAt hfound hk hffM (h (.lays tNS Bundle.tN "detailMessage" "Ljava/lang/String;") (tX_5 8 rfl))
  obtain ⟨tyB, dB, hdB, hdnB⟩ := Cond.laysAt hfound hk hffB (h (.lays tNS Bundle.tN "backtrace" "Ljava/lang/Object;") (tX_5 13 rfl))
  have bC := Cond.laysApart hdB hdC hdnB hdnC (by rw [hnB, Y.causeName]; decide)
  have bS := Cond.laysApart hdB hdS hdnB hdnS (by rw [hnB, Y.stackName]; decide)
  have bP := Cond.laysApart hdB hdP hdnB hdnP (by rw [hnB, Y.suppName]; decide)
  have hskip : SkipFacts T e.platform s (fun u => u) u0 ((preparedCellV T.toThrowableT (freshCell P1.m.cls kX) a u0 sen).withEntry W0.cur) :=
    ⟨{ ci198 := ci198, i198 := i198, fBack := fB }, ⟨hk198, hg198, ha198, hsB⟩, by
      have := fresh_default (c := P1.m.cls) tyB
      rewrite [htB] at this
      simpa [preparedCellV, Cell.setSlot, Cell.withEntry, Array.getElem?_setIfInBounds, bC, bS, bP, bC.symm, bS.symm, bP.symm, defaultValue] using this, fun _ _ => rfl⟩
  obtain ⟨tm, methC, cdC, kC, vm₁, hnC, -, -, -, -, -, -, -, hW₁, st1⟩ := Steps.initColdS (tb := p.tables) (e := e) (below := below) (s := s) (U := W0) X.here hexec X.warmed hpl hown (t := Bundle.initS tNS) rfl rfl (by decide)
    (h (.methodLink RX11 161 (Bundle.initS tNS)) (tX_5 0 rfl)) (h (.instanceMethod (Bundle.initS tNS)) (tX_3 (by simp [Bundle.passSAtoms]))) (bytes := tRx) (maxL := 2) (h (.code (Bundle.initS tNS) tRx 2 none) (tX_3 (by simp [Bundle.passSAtoms])))
    (f := g) hg (a := a) (msg := msg) (rest := .ref a :: rest) hstack hd6
  cases Option.some.inj (hnC.symm.trans hP1m)
  have X₁ := X.noted hW₁
  obtain ⟨vm₂, X₂, st2⟩ := X₁.ctorMessageOffV hexec (g := { g with stack := .ref a :: rest }) hg hsize T L Z LZ M LM (P1 :: P2 :: Ps)
    (fun P hP => by
      rcases List.mem_cons.mp hP with rfl | hP
      · exact L1
      · rcases List.mem_cons.mp hP with rfl | hP
        · exact L2
        · exact hL P hP) ⟨hlink1, hlink2, hlink⟩ (u0 := u0) (sen := sen) (self := a) hmsg (cell := freshCell P1.m.cls kX) (cellS := cellS)
    hcell (fun _ => by simp) (by simp) rfl rfl hsel0 hselF hcellS hneS hknownS (by rw [hkeep _ (hout' _)]; exact hu0) (by rw [hkeep _ (hout' _)]; exact hsen)
    (Takes.of_laid hk hord tyC (by rw [Y.causeType]; rfl)) (Takes.of_laid hk hord tyS (by rw [Y.stackType]; exact fits_refV_array _ u0)) (Takes.of_laid hk hord tyP (by rw [Y.suppType]; exact fits_refV_object _ sen))
    (Takes.of_laid hk hord tyM (by rw [Y.msgType]; exact fits_refV_object _ ⟨msg, hmsg⟩)) Y.objLocals hskip htr [] hd6
    (by simp only [List.length_cons, hlen, List.length_nil]; omega) (by simp only [List.length_cons, hlen, List.length_nil]; omega)
  obtain ⟨hwalk, hrun, hended, hWU, hsame⟩ := X₂.athrowLeaves hexec (g := { g with stack := .ref a :: rest, pc := g.pc + 3 }) hg hlocked hentered hout (a := a) (rest := rest) rfl hd9
  have hlt : a < ((W0.setVm vm₁).setVm vm₂).heap.size := (Array.getElem?_eq_some_iff.mp hcell).1
  have hU := heapAt_setCell_self (s := (W0.setVm vm₁).setVm vm₂) (plainBareV T.toThrowableT (freshCell P1.m.cls kX) a u0 sen msg) hlt
  refine ⟨_, st1 _ (fun acts => ?_), hrun, hended, hWU, hsame.weaken (fun y hy hlt' => ?_) (Nat.le_refl _) (Nat.le_refl _), _, hU, rfl, hfound⟩
  · rw [doInvoke_state]
    exact st2 _ hwalk
  · rcases List.mem_append.mp hy with h1 | h1
    · exact h1
    · exfalso
      have hb : y.base = a := by
        simp only [List.mem_cons, List.not_mem_nil, or_false] at h1
        rcases h1 with rfl | rfl | rfl | rfl | rfl <;> rfl
      rewrite [hb] at hlt'
      exact Nat.not_lt.mpr hnew hlt'
end TCTOR
section TNEW
variable {p : Program} {l : Launch} {e : Env} {R : Room} {s : State} {m : MethodId} {args : Array Value} {below : List Frame} {meth : Method} {c : Code} {H : Heap} {locs : List Loc} {cs sl : Nat} {Am : (Nat → Prop) → State → Heap → Prop}
variable {cc : ByteArray} {nL pc u ii ist : Nat} {ret : Option FieldType} {D : va_G} {tys : List (ClassId × FieldType)} {g : Nat → Nat} {cI cB cZ cQ : ClassId} {S : gS} {ls : Array Slot} {rest : List Value} {vd : Bool} {aK aV : Nat → Nat} {tx : String}
theorem t_words {ic : Nat} {cls : String} (C : gC p s m args meth c cc nL RX11 ret D tys xord g Am) (O : tO l g cI cB cZ cQ Am aK aV) (hg : ∀ w ∈ (vx_atS RX11 ic cls tNm).filter goodWord, w ∈ lw_tbl) (hb : ∀ w ∈ (vx_atS RX11 ic cls tNm).filter (fun w => !goodWord w), w ∈ tB) : ∀ w ∈ vx_atS RX11 ic cls tNm, w.before args s = true := by
  have hA := O.2.1 _ _ _ C.2.2.2.2.2
  refine vx_hat (B := tB) (fun w hw => C.1.2.2.2.2 w (List.mem_filter.mpr ⟨hg w hw, (List.mem_filter.mp hw).2⟩)) hb ?_
  intro w hw
  rcases List.mem_append.mp hw with hw | hw
  · have h1 := hA.1 w hw
    simp only [tW, List.mem_cons, List.not_mem_nil, or_false] at hw
    rcases hw with rfl | rfl | rfl | rfl | rfl <;> exact va_Nw.use rfl h1
  · simp only [List.mem_cons, List.not_mem_nil, or_false] at hw
    rcases hw with rfl | rfl
    · exact hA.2.1.2.word
    · exact hA.2.2.2.word
theorem t_wordsX (C : gC p s m args meth c cc nL RX11 ret D tys xord g Am) (O : tO l g cI cB cZ cQ Am aK aV) : ∀ w ∈ tX.filter vx_no, w.before args s = true := by
  have hA := O.2.1 _ _ _ C.2.2.2.2.2
  refine vx_hat (B := tB) (fun w hw => C.1.2.2.2.2 w (List.mem_filter.mpr ⟨tg1 w hw, (List.mem_filter.mp hw).2⟩)) tb1 ?_
  intro w hw
  rcases List.mem_append.mp hw with hw | hw
  · have h1 := hA.1 w hw
    simp only [tW, List.mem_cons, List.not_mem_nil, or_false] at hw
    rcases hw with rfl | rfl | rfl | rfl | rfl <;> exact va_Nw.use rfl h1
  · simp only [List.mem_cons, List.not_mem_nil, or_false] at hw
    rcases hw with rfl | rfl
    · exact hA.2.1.2.word
    · exact hA.2.2.2.word
theorem t_x (C : gC p s m args meth c cc nL RX11 ret D tys xord g Am) (X : gX D (xcell g cI cB cZ cQ) xord g S s H locs) {n : Nat} (hn : n ≠ 0) {E : String} (hE : E = tE n) : ∀ t : State, s.vm.Alike t.vm → H.size ≤ t.heap.size → (∀ q : Nat, q < H.size → t.heap[q]? = H[q]?) → gXX D tys (xcell g cI cB cZ cQ) xord g s.heap.size (n, 0, S) E s t := by
  intro t hv hz hk
  refine ⟨hn, hE, X.1.kept (fun k q hq => hk q.1 (va_at.lt (X.1 k q hq))), va_K.moved hv C.2.1, Nat.le_trans X.2.1 hz, fun q h1 h2 => ?_⟩
  rw [hk q (Nat.lt_of_lt_of_le h1 X.2.1)]
  exact X.2.2.1 q h1 h2
theorem t_newN (C : gC p s m args meth c cc nL RX11 ret D tys xord g Am) (O : tO l g cI cB cZ cQ Am aK aV) (Tb : ∀ x ∈ c.exceptionTable.toList, False) (X : gX D (xcell g cI cB cZ cQ) xord g S s H locs) (hls : ls.size = nL) (hw : sW[ii]? = some (RX11, ist, tx)) (d0 : decode cc pc = .ok (.new 157, 3)) (d3 : decode cc (pc + 3) = .ok (.dup, 1)) (d4 : decode cc (pc + 4) = .ok (.ldc ist, 2)) (d6 : decode cc (pc + 6) = .ok (.invokespecial 161, 3)) (d9 : decode cc (pc + 9) = .ok (.athrow, 1))
    (hRf : 5 < R.frames) (hRl : (rest.map fun v => v.category).sum + 82 ≤ R.locals) (hRc : cs + 1 ≤ R.cells) (hRs : sl + 6 ≤ R.slots) (hc : cs + 1 ≤ u) (hs : sl + 6 ≤ 6 * u) : W p l e R s m args below meth c H locs cs sl (gEX below args s D tys (xcell g cI cB cZ cQ) xord g u vd (1, 0, S)) (F0 m pc ls rest) := by
  intro T hT X0
  have hat := t_wordsX C O
  have hA2 := O.2.1 _ _ _ C.2.2.2.2.2
  have hstr := (O.1.2 _ _ _ C.2.2.2.2.2).2.1 ii _ hw
  have htr : e.platform.stackTraces = false := (show e.platform.stackTraces = l.stackTraces by rw [X0.admits.platform]).trans O.2.2
  have Y := vx_rebase X0 (R' := { frames := R.frames, locals := R.locals, cells := 1, slots := 6 }) (Nat.le_refl _) (Nat.le_refl _) hRc hRs
  obtain ⟨s', hA⟩ : ∃ z, z = (T.setVm s.vm).setFrames (.invoking m args :: below) := ⟨_, rfl⟩
  rewrite [← hA] at Y
  have hvm : s'.vm = s.vm := by rw [hA]; rfl
  have hhp : s'.heap = H := by rw [hA]; exact hT
  have hW0 : s.WarmedH s'.vm := by rw [hvm]; exact State.WarmedH.refl s
  have hat' : ∀ w ∈ tX.filter vx_no, w.before args s' = true := fun w hw => vx_ot_at hW0 hvm.symm (to1 w (List.mem_cons_of_mem _ (List.mem_cons_of_mem _ hw))) (hat w hw)
  have hk' : (Cond.classLink RX11 157 tNS).before args s' = true := vx_ot_at hW0 hvm.symm (to1 _ List.mem_cons_self) (C.1.2.2.2.2 _ tc1.1)
  have hini' : (Cond.initialized tNS).before args s' = true := vx_ot_at hW0 hvm.symm (to1 _ (List.mem_cons_of_mem _ List.mem_cons_self)) (C.1.2.2.2.2 _ tc1.2)
  have hU' : vx_Zq Bundle.tN "UNASSIGNED_STACK" Bundle.steD (gA xord g s.heap.size) s' s'.heap := by rw [hhp]; exact vx_Zq.moved hW0.alike (hA2.2.1.kept X.2.2.1)
  have hN' : vx_Zq Bundle.tN "SUPPRESSED_SENTINEL" Bundle.listD (gA xord g s.heap.size) s' s'.heap := by rw [hhp]; exact vx_Zq.moved hW0.alike (hA2.2.2.kept X.2.2.1)
  have h : ∀ w ∈ tX, w.before args s' = true := vx_own hat' (vx_isRefq hU'.1) (vx_isRefq hN'.1) hU'.2.word hN'.2.word
  have hown' : s'.vm.findClass RX11 = some m.cls := by rw [hvm]; exact C.1.2.2.2.1
  obtain ⟨vm₁, cX, kX, hfX, hkX, -, -, X₁, st1⟩ := Y.newCold C.1.1 (own := RX11) (C := tNS) (index := 157) (n := 6) hown' hk' (h _ (tX_5 1 rfl)) hini'
    (g := F0 m pc ls rest) rfl (by rw [C.1.2.1]; exact d0) (Nat.le_refl _) (Nat.le_refl _)
  generalize hT1 : (T.setVm vm₁).pushCell { cls := cX, slots := kX.instanceTypes.map defaultValue, vm := .none } = T1 at X₁ st1
  have hcat : (Value.ref T.heap.size).category = 1 := rfl
  have hcellA : T1.heap[T.heap.size]? = some (freshCell cX kX) := by rw [← hT1]; exact State.heap_pushCell_size _ _
  have d3' : decode c.code (pc + 3) = .ok (.dup, 1) := by rw [C.1.2.1]; exact d3
  have d4' : decode c.code (pc + 4) = .ok (.ldc ist, 2) := by rw [C.1.2.1]; exact d4
  have hstr' : vk_R RX11 ist tx (aK ii) s' := vk_R.warm hW0 hstr
  obtain ⟨U, hsteps, hrun, hend, hW, hsame, ce, hce, hcv, hcf⟩ := t_ctor X₁ C.1.1 htr hown' h (fun x hx => nomatch hx) hfX hkX hcellA (by rw [hhp, hT]; exact Nat.le_refl _) (msg := .ref (aK ii)) rfl
    (g := { method := m, pc := pc + 6, locals := ls, stack := .ref (aK ii) :: .ref T.heap.size :: .ref T.heap.size :: rest, locked := none }) rfl (hls.trans C.1.2.2.1.symm) rfl rfl (rest := rest) rfl
    (by rw [C.1.2.1]; exact d6) (by rw [C.1.2.1]; exact d9) (fun x hx => (Tb x hx).elim) hRf (by simp only [List.map_cons, List.sum_cons, hcat]; show 2 * 0 + _ + 81 ≤ _; omega) C.2.2.2.1
  obtain ⟨f1, f2⟩ := vx_frame hsame
  rewrite [hhp] at f1 f2
  have hWs : s.WarmedH U.vm := State.WarmedH.trans hW0 hW
  have hcl : s.vm.findClass tNS = some ce.cls := by
    rewrite [hvm] at hcf
    exact hcf
  have hall : s.sameButNew ({ U with vm := s.vm } : State) locs u (6 * u) := by
    subst hA
    obtain ⟨e1, e2⟩ := hsame
    rewrite [State.setFrames_setFrames] at e1
    have h2 : (T.setVm s.vm).sameButNew ({ U with vm := s.vm } : State) [] (0 + 1) (0 + 6) := ⟨e1, e2⟩
    have h3 := X0.same.trans h2
    rewrite [List.append_nil] at h3
    exact h3.mono hc hs
  refine ⟨U, ?_, .threw T.heap.size, hrun, hend, Or.inr ⟨T.heap.size, rfl, tNS, ce, locs, t_x C X (by decide) rfl U hWs.alike f1 (fun q hq => f2 q hq (fun z hz => nomatch hz)), hce, hcv, hcl, hWs, hall, X.2.2.2⟩⟩
  refine st1 _ ?_
  show Steps p.tables e below (T1.setTop { method := m, pc := pc + 3, locals := ls, stack := .ref T.heap.size :: rest, locked := none }) _
  have hx := C.1.1
  jvm_step X₁.here [X₁.here.top, hx, d3', Value.category]
  exact X₁.ldcString C.1.1 (own := RX11) (text := tx) (index := ist) (a := aK ii) hown' hstr'.1 hstr'.2
    (g := { method := m, pc := pc + 4, locals := ls, stack := .ref T.heap.size :: .ref T.heap.size :: rest, locked := none }) rfl d4' _ hsteps
theorem t_newNW (C : gC p s m args meth c cc nL RX11 ret D tys xord g Am) (O : tO l g cI cB cZ cQ Am aK aV) (Tb : ∀ x ∈ c.exceptionTable.toList, False) (X : gX D (xcell g cI cB cZ cQ) xord g S s H locs) (hls : ls.size = nL) (hw : sW[ii]? = some (RX11, ist, tx)) (d0 : decode cc pc = .ok (.new 157, 3)) (d3 : decode cc (pc + 3) = .ok (.dup, 1)) (d4 : decode cc (pc + 4) = .ok (.ldc_w ist, 3)) (d6 : decode cc (pc + 7) = .ok (.invokespecial 161, 3)) (d9 : decode cc (pc + 10) = .ok (.athrow, 1))
    (hRf : 5 < R.frames) (hRl : (rest.map fun v => v.category).sum + 82 ≤ R.locals) (hRc : cs + 1 ≤ R.cells) (hRs : sl + 6 ≤ R.slots) (hc : cs + 1 ≤ u) (hs : sl + 6 ≤ 6 * u) : W p l e R s m args below meth c H locs cs sl (gEX below args s D tys (xcell g cI cB cZ cQ) xord g u vd (1, 0, S)) (F0 m pc ls rest) := by
  intro T hT X0
  have hat := t_wordsX C O
  have hA2 := O.2.1 _ _ _ C.2.2.2.2.2
  have hstr := (O.1.2 _ _ _ C.2.2.2.2.2).2.1 ii _ hw
  have htr : e.platform.stackTraces = false := (show e.platform.stackTraces = l.stackTraces by rw [X0.admits.platform]).trans O.2.2
  have Y := vx_rebase X0 (R' := { frames := R.frames, locals := R.locals, cells := 1, slots := 6 }) (Nat.le_refl _) (Nat.le_refl _) hRc hRs
  obtain ⟨s', hA⟩ : ∃ z, z = (T.setVm s.vm).setFrames (.invoking m args :: below) := ⟨_, rfl⟩
  rewrite [← hA] at Y
  have hvm : s'.vm = s.vm := by rw [hA]; rfl
  have hhp : s'.heap = H := by rw [hA]; exact hT
  have hW0 : s.WarmedH s'.vm := by rw [hvm]; exact State.WarmedH.refl s
  have hat' : ∀ w ∈ tX.filter vx_no, w.before args s' = true := fun w hw => vx_ot_at hW0 hvm.symm (to1 w (List.mem_cons_of_mem _ (List.mem_cons_of_mem _ hw))) (hat w hw)
  have hk' : (Cond.classLink RX11 157 tNS).before args s' = true := vx_ot_at hW0 hvm.symm (to1 _ List.mem_cons_self) (C.1.2.2.2.2 _ tc1.1)
  have hini' : (Cond.initialized tNS).before args s' = true := vx_ot_at hW0 hvm.symm (to1 _ (List.mem_cons_of_mem _ List.mem_cons_self)) (C.1.2.2.2.2 _ tc1.2)
  have hU' : vx_Zq Bundle.tN "UNASSIGNED_STACK" Bundle.steD (gA xord g s.heap.size) s' s'.heap := by rw [hhp]; exact vx_Zq.moved hW0.alike (hA2.2.1.kept X.2.2.1)
  have hN' : vx_Zq Bundle.tN "SUPPRESSED_SENTINEL" Bundle.listD (gA xord g s.heap.size) s' s'.heap := by rw [hhp]; exact vx_Zq.moved hW0.alike (hA2.2.2.kept X.2.2.1)
  have h : ∀ w ∈ tX, w.before args s' = true := vx_own hat' (vx_isRefq hU'.1) (vx_isRefq hN'.1) hU'.2.word hN'.2.word
  have hown' : s'.vm.findClass RX11 = some m.cls := by rw [hvm]; exact C.1.2.2.2.1
  obtain ⟨vm₁, cX, kX, hfX, hkX, -, -, X₁, st1⟩ := Y.newCold C.1.1 (own := RX11) (C := tNS) (index := 157) (n := 6) hown' hk' (h _ (tX_5 1 rfl)) hini'
    (g := F0 m pc ls rest) rfl (by rw [C.1.2.1]; exact d0) (Nat.le_refl _) (Nat.le_refl _)
  generalize hT1 : (T.setVm vm₁).pushCell { cls := cX, slots := kX.instanceTypes.map defaultValue, vm := .none } = T1 at X₁ st1
  have hcat : (Value.ref T.heap.size).category = 1 := rfl
  have hcellA : T1.heap[T.heap.size]? = some (freshCell cX kX) := by rw [← hT1]; exact State.heap_pushCell_size _ _
  have d3' : decode c.code (pc + 3) = .ok (.dup, 1) := by rw [C.1.2.1]; exact d3
  have d4' : decode c.code (pc + 4) = .ok (.ldc_w ist, 3) := by rw [C.1.2.1]; exact d4
  have hstr' : vk_R RX11 ist tx (aK ii) s' := vk_R.warm hW0 hstr
  obtain ⟨U, hsteps, hrun, hend, hW, hsame, ce, hce, hcv, hcf⟩ := t_ctor X₁ C.1.1 htr hown' h (fun x hx => nomatch hx) hfX hkX hcellA (by rw [hhp, hT]; exact Nat.le_refl _) (msg := .ref (aK ii)) rfl
    (g := { method := m, pc := pc + 7, locals := ls, stack := .ref (aK ii) :: .ref T.heap.size :: .ref T.heap.size :: rest, locked := none }) rfl (hls.trans C.1.2.2.1.symm) rfl rfl (rest := rest) rfl
    (by rw [C.1.2.1]; exact d6) (by rw [C.1.2.1]; exact d9) (fun x hx => (Tb x hx).elim) hRf (by simp only [List.map_cons, List.sum_cons, hcat]; show 2 * 0 + _ + 81 ≤ _; omega) C.2.2.2.1
  obtain ⟨f1, f2⟩ := vx_frame hsame
  rewrite [hhp] at f1 f2
  have hWs : s.WarmedH U.vm := State.WarmedH.trans hW0 hW
  have hcl : s.vm.findClass tNS = some ce.cls := by
    rewrite [hvm] at hcf
    exact hcf
  have hall : s.sameButNew ({ U with vm := s.vm } : State) locs u (6 * u) := by
    subst hA
    obtain ⟨e1, e2⟩ := hsame
    rewrite [State.setFrames_setFrames] at e1
    have h2 : (T.setVm s.vm).sameButNew ({ U with vm := s.vm } : State) [] (0 + 1) (0 + 6) := ⟨e1, e2⟩
    have h3 := X0.same.trans h2
    rewrite [List.append_nil] at h3
    exact h3.mono hc hs
  refine ⟨U, ?_, .threw T.heap.size, hrun, hend, Or.inr ⟨T.heap.size, rfl, tNS, ce, locs, t_x C X (by decide) rfl U hWs.alike f1 (fun q hq => f2 q hq (fun z hz => nomatch hz)), hce, hcv, hcl, hWs, hall, X.2.2.2⟩⟩
  refine st1 _ ?_
  show Steps p.tables e below (T1.setTop { method := m, pc := pc + 3, locals := ls, stack := .ref T.heap.size :: rest, locked := none }) _
  have hx := C.1.1
  jvm_step X₁.here [X₁.here.top, hx, d3', Value.category]
  exact X₁.ldcStringW C.1.1 (own := RX11) (text := tx) (index := ist) (a := aK ii) hown' hstr'.1 hstr'.2
    (g := { method := m, pc := pc + 4, locals := ls, stack := .ref T.heap.size :: .ref T.heap.size :: rest, locked := none }) rfl d4' _ hsteps
theorem t_newI (C : gC p s m args meth c cc nL RX11 ret D tys xord g Am) (O : tO l g cI cB cZ cQ Am aK aV) (Tb : ∀ x ∈ c.exceptionTable.toList, False) (X : gX D (xcell g cI cB cZ cQ) xord g S s H locs) (hls : ls.size = nL) (hw : sW[ii]? = some (RX11, ist, tx)) (d0 : decode cc pc = .ok (.new 82, 3)) (d3 : decode cc (pc + 3) = .ok (.dup, 1)) (d4 : decode cc (pc + 4) = .ok (.ldc ist, 2)) (d6 : decode cc (pc + 6) = .ok (.invokespecial 86, 3)) (d9 : decode cc (pc + 9) = .ok (.athrow, 1))
    (hRf : 5 < R.frames) (hRl : (rest.map fun v => v.category).sum + 82 ≤ R.locals) (hRc : cs + 1 ≤ R.cells) (hRs : sl + 6 ≤ R.slots) (hc : cs + 1 ≤ u) (hs : sl + 6 ≤ 6 * u) : W p l e R s m args below meth c H locs cs sl (gEX below args s D tys (xcell g cI cB cZ cQ) xord g u vd (2, 0, S)) (F0 m pc ls rest) :=
  have hstr := (O.1.2 _ _ _ C.2.2.2.2.2).2.1 ii _ hw
  vx_throwS (names := tNm) C.1.1 C.1.2.1 O.2.2 C.1.2.2.2.1 (by decide +kernel) (by decide +kernel) (C.1.2.2.2.2 _ tc2.1) (C.1.2.2.2.2 _ tc2.2) hstr (t_words C O tg2 tb2) to2 (O.2.1 _ _ _ C.2.2.2.2.2).2.1 (O.2.1 _ _ _ C.2.2.2.2.2).2.2 X.2 (hls.trans C.1.2.2.1.symm) d0 d3 d4 d6 d9 (fun x hx => (Tb x hx).elim) hRf hRl hRc hRs C.2.2.2.1 (t_x C X (by decide) rfl) X.2.2.2 hc hs
theorem t_newIW (C : gC p s m args meth c cc nL RX11 ret D tys xord g Am) (O : tO l g cI cB cZ cQ Am aK aV) (Tb : ∀ x ∈ c.exceptionTable.toList, False) (X : gX D (xcell g cI cB cZ cQ) xord g S s H locs) (hls : ls.size = nL) (hw : sW[ii]? = some (RX11, ist, tx)) (d0 : decode cc pc = .ok (.new 82, 3)) (d3 : decode cc (pc + 3) = .ok (.dup, 1)) (d4 : decode cc (pc + 4) = .ok (.ldc_w ist, 3)) (d6 : decode cc (pc + 7) = .ok (.invokespecial 86, 3)) (d9 : decode cc (pc + 10) = .ok (.athrow, 1))
    (hRf : 5 < R.frames) (hRl : (rest.map fun v => v.category).sum + 82 ≤ R.locals) (hRc : cs + 1 ≤ R.cells) (hRs : sl + 6 ≤ R.slots) (hc : cs + 1 ≤ u) (hs : sl + 6 ≤ 6 * u) : W p l e R s m args below meth c H locs cs sl (gEX below args s D tys (xcell g cI cB cZ cQ) xord g u vd (2, 0, S)) (F0 m pc ls rest) :=
  have hstr := (O.1.2 _ _ _ C.2.2.2.2.2).2.1 ii _ hw
  vx_throwSW (names := tNm) C.1.1 C.1.2.1 O.2.2 C.1.2.2.2.1 (by decide +kernel) (by decide +kernel) (C.1.2.2.2.2 _ tc2.1) (C.1.2.2.2.2 _ tc2.2) hstr (t_words C O tg2 tb2) to2 (O.2.1 _ _ _ C.2.2.2.2.2).2.1 (O.2.1 _ _ _ C.2.2.2.2.2).2.2 X.2 (hls.trans C.1.2.2.1.symm) d0 d3 d4 d6 d9 (fun x hx => (Tb x hx).elim) hRf hRl hRc hRs C.2.2.2.1 (t_x C X (by decide) rfl) X.2.2.2 hc hs
end TNEW
end

/-! part 17.cthr -/
section
/-! calls of the class's own methods that may throw -/
section XTHR
variable {p : Program} {l : Launch} {e : Env} {R : Room} {s : State} {m : MethodId} {args : Array Value} {below : List Frame} {meth : Method} {c : Code} {H : Heap} {locs : List Loc} {cs sl : Nat} {Q : State → Prop} {Am : (Nat → Prop) → State → Heap → Prop}
variable {cc cy : ByteArray} {nL mL pc n index d u u2 : Nat} {ret rt : Option FieldType} {D : va_G} {g : Nat → Nat} {cI cB cZ cQ : ClassId} {S : gS} {ls : Array Slot} {rest As : List Value} {y : MethodName} {vd : Bool} {o : tR}
theorem x_preT {own : String} (C : gC p s m args meth c cc nL own ret D (xtys cI cB cZ cQ) xord g Am) (X : gX D (xcell g cI cB cZ cQ) xord g S s H locs) (w : gWV own index y cy mL rt n) (hy : RX11 = y.cls)
    (hM : gN l y cy mL rt d u2 D (xtys cI cB cZ cQ) (xcell g cI cB cZ cQ) xord g Am (.ref (g 0) :: As) S vd o) (hR : d + 1 ≤ R.frames) (hR2 : 8 + (mL + 11) + (40 * d + 13) ≤ R.locals) (hcs : cs + u2 ≤ R.cells) (hsl : sl + 6 * u2 ≤ R.slots) (hn : As.length = n) (hls : ls.size = nL) {st : List Value} (hst : st = As.reverse ++ .ref (g 0) :: rest) (hrest : (rest.map fun v => v.category).sum ≤ 8) (hdg : decode cc pc = .ok (.invokevirtual index, 3)) :
    vx_Run p l e R s m args below meth c H locs cs sl u2 (6 * u2) (F0 m pc ls st) rest (gXQ D (xtys cI cB cZ cQ) (xcell g cI cB cZ cQ) xord g H.size vd o (Value.ref (g 0) :: As).toArray) (gXX D (xtys cI cB cZ cQ) (xcell g cI cB cZ cQ) xord g H.size o) (gA xord g H.size) :=
  t_preV C X w (ci := 11) rfl hy (gw_get (q := 0) (k := 0) rfl (x_c11 g cI cB cZ cQ S (k := 0) rfl)) hM hR hR2 hcs hsl hn hls hst hrest hdg
variable {tys : List (ClassId × FieldType)} {cell : gS → Nat → Nat × va_E} {ord : List Nat} {adr : Nat → Nat}
theorem t_okv {mc ms : Nat} {st0 : List Value} {a : Array Value} (hr : vx_Run p l e R s m args below meth c H locs cs sl mc ms (F0 m pc ls st0) rest (gXQ D tys cell ord adr H.size true o a) (gXX D tys cell ord adr H.size o) (gA ord adr H.size)) (ho : o.1 = 0) (X : gX D cell ord adr S s H locs)
    (kk : ∀ (H1 : Heap) (locs1 : List Loc), gX D cell ord adr o.2.2 s H1 locs1 → W p l e R s m args below meth c H1 locs1 (cs + mc) (sl + ms) Q (F0 m (pc + 3) ls rest)) : W p l e R s m args below meth c H locs cs sl Q (F0 m pc ls st0) := t_ok hr ho X kk
theorem t_oki {mc ms : Nat} {st0 : List Value} {a : Array Value} (hr : vx_Run p l e R s m args below meth c H locs cs sl mc ms (F0 m pc ls st0) rest (gXQ D tys cell ord adr H.size false o a) (gXX D tys cell ord adr H.size o) (gA ord adr H.size)) (ho : o.1 = 0) (X : gX D cell ord adr S s H locs)
    (kk : ∀ (H1 : Heap) (locs1 : List Loc), gX D cell ord adr o.2.2 s H1 locs1 → W p l e R s m args below meth c H1 locs1 (cs + mc) (sl + ms) Q (F0 m (pc + 3) ls (.int o.2.1 :: rest))) : W p l e R s m args below meth c H locs cs sl Q (F0 m pc ls st0) := t_ok hr ho X kk
end XTHR
end
