/-! the class's methods that may throw (printed by wip/whole/mkxt.py) -/
section
variable {p : Program} {l : Launch} {e : Env} {s : State} {m : MethodId} {args : Array Value} {below : List Frame} {meth : Method} {c : Code} {D : va_G} {g : Nat → Nat} {cI cB cZ cQ : ClassId} {Am : (Nat → Prop) → State → Heap → Prop} {aK aV : Nat → Nat}
-- X11.port
noncomputable def fX11_port_b63 (N : Nat) (S : gS) : Option (tR) := lt (xtw S) fun T1 => (lt (xdr S) fun T2 => (lt (sU S 0 7 (if T2 = 72 then 0 else 1)) fun S1 => (lt (sU S1 1 1 (if T1 = 4 then 0 else 1)) fun S2 => (lt (xtw S2) fun T3 => (bnd (fX1_begin N 20 T3 S2) fun q1 => (lt (sU q1.2 0 8 0) fun S3 => (some (0, 0, S3))))))))
theorem bX11_port_63 {N : Nat} {S : gS} {H : Heap} {locs : List Loc} {ls : Array Slot} {o : tR} (C : gC p s m args meth c cX11_port 4 RX11 ((some .int)) D (xtys cI cB cZ cQ) xord g Am) (O : tO l g cI cB cZ cQ Am aK aV) (Tb : ∀ x ∈ c.exceptionTable.toList, False) (X : gX D (xcell g cI cB cZ cQ) xord g S s H locs) (hl : lv_has ls 4 [(0, .ref (g 0))]) (hF : fX11_port_b63 N S = some o) : W p l e (rmx 72 1) s m args below meth c H locs 0 0 (gEX below args s D (xtys cI cB cZ cQ) (xcell g cI cB cZ cQ) xord g 1 false o) (F0 m 63 ls []) := by
  unfold fX11_port_b63 at hF
  refine lv_aload_n C.1.1 C.1.2.1 dX11_port_63 rfl (lv_at hl 0 rfl) ?_
  obtain ⟨T1, eT1, hF⟩ := lt_some hF
  have hk_T1 := xtw_k eT1
  refine xg_X11_57 C O.1.1 X (T := T1) eT1 (k := 0) rfl dX11_port_64 ?_
  refine lv_astore_n (lv' := [(3, .ref (g T1)), (0, .ref (g 0))]) C.1.1 C.1.2.1 dX11_port_67 rfl hl (by decide) rfl (fun ls hl => ?_)
  refine lv_aload_n C.1.1 C.1.2.1 dX11_port_68 rfl (lv_at hl 1 rfl) ?_
  refine lv_aload_n C.1.1 C.1.2.1 dX11_port_69 rfl (lv_at hl 1 rfl) ?_
  refine xg_X11_12 C O.1.1 X (k := 0) rfl (j := 1) rfl dX11_port_70 ?_
  obtain ⟨T2, eT2, hF⟩ := lt_some hF
  have hk_T2 := xdr_k eT2
  refine xg_X11_96 C O.1.1 X (T := T2) eT2 (k := 1) rfl dX11_port_73 ?_
  obtain ⟨S1, eS1, hF⟩ := lt_some hF
  refine xp_X11_57 C O.1.1 X (T := T2) hk_T2 (k := 0) rfl eS1 dX11_port_76 (fun H locs X => ?_)
  refine lv_aload_n C.1.1 C.1.2.1 dX11_port_79 rfl (lv_at hl 1 rfl) ?_
  refine xg_X11_12 C O.1.1 X (k := 0) rfl (j := 1) rfl dX11_port_80 ?_
  refine lv_aload_n C.1.1 C.1.2.1 dX11_port_83 rfl (lv_at hl 0 rfl) ?_
  obtain ⟨S2, eS2, hF⟩ := lt_some hF
  refine xp_X11_96 C O.1.1 X (T := T1) hk_T1 (k := 1) rfl eS2 dX11_port_84 (fun H locs X => ?_)
  refine lv_aload_n C.1.1 C.1.2.1 dX11_port_87 rfl (lv_at hl 1 rfl) ?_
  refine xg_X11_19 C O.1.1 X (k := 0) rfl (j := 20) rfl dX11_port_88 ?_
  refine lv_aload_n C.1.1 C.1.2.1 dX11_port_91 rfl (lv_at hl 1 rfl) ?_
  obtain ⟨T3, eT3, hF⟩ := lt_some hF
  have hk_T3 := xtw_k eT3
  refine xg_X11_57 C O.1.1 X (T := T3) eT3 (k := 0) rfl dX11_port_92 ?_
  obtain ⟨q1, hq1, hF⟩ := bnd_some hF
  refine x_callV C X (k := 20) xv_X11_98 (rfl : xk 20 = 1) rfl rfl (by decide) (kX1_begin O.1.1 C.2.2.2.2.1 N 20 T3 (rfl : xk 20 = 1) (hk_T3 : xk T3 = 9) S2 q1 hq1) (Nat.le_of_ble_eq_true rfl) (Nat.le_of_ble_eq_true rfl) (Nat.le_of_ble_eq_true rfl) (Nat.le_of_ble_eq_true rfl) rfl hl.1 rfl (Nat.le_of_ble_eq_true rfl) dX11_port_95 (fun H locs X => ?_)
  refine lv_aload_n C.1.1 C.1.2.1 dX11_port_98 rfl (lv_at hl 1 rfl) ?_
  refine lv_iconst (v := 0) C.1.1 C.1.2.1 dX11_port_99 (by decide) ?_
  obtain ⟨S3, eS3, hF⟩ := lt_some hF
  refine xp_X11_61 C O.1.1 X (k := 0) rfl (by decide) eS3 dX11_port_100 (fun H locs X => ?_)
  refine lv_iconst (v := 0) C.1.1 C.1.2.1 dX11_port_103 (by decide) ?_
  cases hF
  exact t_iret (x := 0) C X (by decide) (by decide) dX11_port_104
noncomputable def fX11_port_b52 (N : Nat) (x2 : Int32) (S : gS) : Option (tR) := bnd (fX1_refuse N 20 0 S) fun q1 => (some (0, x2, q1.2))
theorem bX11_port_52 {N : Nat} {x2 : Int32} {S : gS} {H : Heap} {locs : List Loc} {ls : Array Slot} {o : tR} (C : gC p s m args meth c cX11_port 4 RX11 ((some .int)) D (xtys cI cB cZ cQ) xord g Am) (O : tO l g cI cB cZ cQ Am aK aV) (Tb : ∀ x ∈ c.exceptionTable.toList, False) (X : gX D (xcell g cI cB cZ cQ) xord g S s H locs) (hl : lv_has ls 4 [(0, .ref (g 0)), (2, .int x2)]) (hF : fX11_port_b52 N x2 S = some o) : W p l e (rmx 72 1) s m args below meth c H locs 0 0 (gEX below args s D (xtys cI cB cZ cQ) (xcell g cI cB cZ cQ) xord g 1 false o) (F0 m 52 ls []) := by
  unfold fX11_port_b52 at hF
  refine lv_aload_n C.1.1 C.1.2.1 dX11_port_52 rfl (lv_at hl 0 rfl) ?_
  refine xg_X11_19 C O.1.1 X (k := 0) rfl (j := 20) rfl dX11_port_53 ?_
  refine lv_iconst (v := 0) C.1.1 C.1.2.1 dX11_port_56 (by decide) ?_
  obtain ⟨q1, hq1, hF⟩ := bnd_some hF
  refine x_callVi C X (k := 20) xv_X11_93 (rfl : xk 20 = 1) rfl rfl (by decide) (kX1_refuse O.1.1 C.2.2.2.2.1 N 20 0 (rfl : xk 20 = 1) S q1 hq1) (Nat.le_of_ble_eq_true rfl) (Nat.le_of_ble_eq_true rfl) (Nat.le_of_ble_eq_true rfl) (Nat.le_of_ble_eq_true rfl) rfl hl.1 rfl (Nat.le_of_ble_eq_true rfl) dX11_port_57 (fun H locs X => ?_)
  refine lv_pop C.1.1 C.1.2.1 dX11_port_60 rfl ?_
  refine lv_iload_n C.1.1 C.1.2.1 dX11_port_61 rfl (lv_at hl 1 rfl) ?_
  cases hF
  exact t_iret C X (by decide) (by decide) dX11_port_62
noncomputable def fX11_port_b28 (N : Nat) (x1 : Int32) (S : gS) : Option (tR) := bnd (fX3_read N x1 S) fun q1 => (lt (sU q1.2 2 1 0) fun S1 => (if q1.1 = 0 then fX11_port_b63 N S1 else fX11_port_b52 N q1.1 S1))
theorem bX11_port_28 {N : Nat} {x1 : Int32} {S : gS} {H : Heap} {locs : List Loc} {ls : Array Slot} {o : tR} (C : gC p s m args meth c cX11_port 4 RX11 ((some .int)) D (xtys cI cB cZ cQ) xord g Am) (O : tO l g cI cB cZ cQ Am aK aV) (Tb : ∀ x ∈ c.exceptionTable.toList, False) (X : gX D (xcell g cI cB cZ cQ) xord g S s H locs) (hl : lv_has ls 4 [(0, .ref (g 0)), (1, .int x1)]) (hF : fX11_port_b28 N x1 S = some o) : W p l e (rmx 72 1) s m args below meth c H locs 0 0 (gEX below args s D (xtys cI cB cZ cQ) (xcell g cI cB cZ cQ) xord g 1 false o) (F0 m 28 ls []) := by
  unfold fX11_port_b28 at hF
  refine lv_aload_n C.1.1 C.1.2.1 dX11_port_28 rfl (lv_at hl 0 rfl) ?_
  refine xg_X11_12 C O.1.1 X (k := 0) rfl (j := 1) rfl dX11_port_29 ?_
  refine lv_iload_n C.1.1 C.1.2.1 dX11_port_32 rfl (lv_at hl 1 rfl) ?_
  obtain ⟨q1, hq1, hF⟩ := bnd_some hF
  refine x_callVi C X (k := 1) xv_X11_89 (rfl : xk 1 = 3) rfl rfl (by decide) (kX3_read O.1 C.2.2.2.2.1 N x1 S q1 hq1) (Nat.le_of_ble_eq_true rfl) (Nat.le_of_ble_eq_true rfl) (Nat.le_of_ble_eq_true rfl) (Nat.le_of_ble_eq_true rfl) rfl hl.1 rfl (Nat.le_of_ble_eq_true rfl) dX11_port_33 (fun H locs X => ?_)
  refine lv_istore_n (lv' := [(2, .int q1.1), (0, .ref (g 0)), (1, .int x1)]) C.1.1 C.1.2.1 dX11_port_36 rfl hl (by decide) rfl (fun ls hl => ?_)
  refine lv_aload_n C.1.1 C.1.2.1 dX11_port_37 rfl (lv_at hl 1 rfl) ?_
  refine xg_X11_12 C O.1.1 X (k := 0) rfl (j := 1) rfl dX11_port_38 ?_
  refine xg_X11_69 C O.1.1 X (k := 1) rfl (j := 2) rfl dX11_port_41 ?_
  refine lv_iconst (v := 0) C.1.1 C.1.2.1 dX11_port_44 (by decide) ?_
  obtain ⟨S1, eS1, hF⟩ := lt_some hF
  refine xp_X11_73 C O.1.1 X (k := 2) rfl eS1 dX11_port_45 (fun H locs X => ?_)
  refine lv_iload_n C.1.1 C.1.2.1 dX11_port_48 rfl (lv_at hl 0 rfl) ?_
  refine lv_if_eq (tgt := 63) C.1.1 C.1.2.1 dX11_port_49 (by decide) (fun h_z => ?_) (fun h_z => ?_)
  · rw [if_pos h_z] at hF
    exact bX11_port_63 C O Tb X (lv_sub hl [1] rfl) hF
  · rw [if_neg h_z] at hF
    exact bX11_port_52 C O Tb X (lv_sub hl [1, 0] rfl) hF
noncomputable def fX11_port_b18 (N : Nat) (S : gS) : Option (tR) := some (2, 0, S)
theorem bX11_port_18 {N : Nat} {S : gS} {H : Heap} {locs : List Loc} {ls : Array Slot} {o : tR} (C : gC p s m args meth c cX11_port 4 RX11 ((some .int)) D (xtys cI cB cZ cQ) xord g Am) (O : tO l g cI cB cZ cQ Am aK aV) (Tb : ∀ x ∈ c.exceptionTable.toList, False) (X : gX D (xcell g cI cB cZ cQ) xord g S s H locs) (hl : lv_has ls 4 []) (hF : fX11_port_b18 N S = some o) : W p l e (rmx 72 1) s m args below meth c H locs 0 0 (gEX below args s D (xtys cI cB cZ cQ) (xcell g cI cB cZ cQ) xord g 1 false o) (F0 m 18 ls []) := by
  unfold fX11_port_b18 at hF
  cases hF
  exact t_newI (ii := 0) C O Tb X hl.1 rfl dX11_port_18 dX11_port_21 dX11_port_22 dX11_port_24 dX11_port_27 (Nat.le_of_ble_eq_true rfl) (Nat.le_of_ble_eq_true rfl) (Nat.le_of_ble_eq_true rfl) (Nat.le_of_ble_eq_true rfl) (by decide) (by decide)
noncomputable def fX11_port_b4 (N : Nat) (x1 : Int32) (S : gS) : Option (tR) := if x1 ≤ (S 2 1) then fX11_port_b28 N x1 S else fX11_port_b18 N S
theorem bX11_port_4 {N : Nat} {x1 : Int32} {S : gS} {H : Heap} {locs : List Loc} {ls : Array Slot} {o : tR} (C : gC p s m args meth c cX11_port 4 RX11 ((some .int)) D (xtys cI cB cZ cQ) xord g Am) (O : tO l g cI cB cZ cQ Am aK aV) (Tb : ∀ x ∈ c.exceptionTable.toList, False) (X : gX D (xcell g cI cB cZ cQ) xord g S s H locs) (hl : lv_has ls 4 [(0, .ref (g 0)), (1, .int x1)]) (hF : fX11_port_b4 N x1 S = some o) : W p l e (rmx 72 1) s m args below meth c H locs 0 0 (gEX below args s D (xtys cI cB cZ cQ) (xcell g cI cB cZ cQ) xord g 1 false o) (F0 m 4 ls []) := by
  unfold fX11_port_b4 at hF
  refine lv_iload_n C.1.1 C.1.2.1 dX11_port_4 rfl (lv_at hl 1 rfl) ?_
  refine lv_aload_n C.1.1 C.1.2.1 dX11_port_5 rfl (lv_at hl 0 rfl) ?_
  refine xg_X11_12 C O.1.1 X (k := 0) rfl (j := 1) rfl dX11_port_6 ?_
  refine xg_X11_69 C O.1.1 X (k := 1) rfl (j := 2) rfl dX11_port_9 ?_
  refine xg_X11_73 C O.1.1 X (k := 2) rfl dX11_port_12 ?_
  refine lv_icmp_le (tgt := 28) C.1.1 C.1.2.1 dX11_port_15 (by decide) (fun h_z => ?_) (fun h_z => ?_)
  · rw [if_pos h_z] at hF
    exact bX11_port_28 C O Tb X (lv_sub hl [0, 1] rfl) hF
  · rw [if_neg h_z] at hF
    exact bX11_port_18 C O Tb X (lv_sub hl [] rfl) hF
noncomputable def fX11_port_b0 (N : Nat) (x1 : Int32) (S : gS) : Option (tR) := if x1 < 0 then fX11_port_b18 N S else fX11_port_b4 N x1 S
theorem bX11_port_0 {N : Nat} {x1 : Int32} {S : gS} {H : Heap} {locs : List Loc} {ls : Array Slot} {o : tR} (C : gC p s m args meth c cX11_port 4 RX11 ((some .int)) D (xtys cI cB cZ cQ) xord g Am) (O : tO l g cI cB cZ cQ Am aK aV) (Tb : ∀ x ∈ c.exceptionTable.toList, False) (X : gX D (xcell g cI cB cZ cQ) xord g S s H locs) (hl : lv_has ls 4 [(0, .ref (g 0)), (1, .int x1)]) (hF : fX11_port_b0 N x1 S = some o) : W p l e (rmx 72 1) s m args below meth c H locs 0 0 (gEX below args s D (xtys cI cB cZ cQ) (xcell g cI cB cZ cQ) xord g 1 false o) (F0 m 0 ls []) := by
  unfold fX11_port_b0 at hF
  refine lv_iload_n C.1.1 C.1.2.1 dX11_port_0 rfl (lv_at hl 1 rfl) ?_
  refine lv_if_lt (tgt := 18) C.1.1 C.1.2.1 dX11_port_1 (by decide) (fun h_z => ?_) (fun h_z => ?_)
  · rw [if_pos h_z] at hF
    exact bX11_port_18 C O Tb X (lv_sub hl [] rfl) hF
  · rw [if_neg h_z] at hF
    exact bX11_port_4 C O Tb X (lv_sub hl [0, 1] rfl) hF
noncomputable def fX11_port (N : Nat) (x1 : Int32) (S : gS) : Option (tR) := fX11_port_b0 N x1 S
theorem kX11_port {l : Launch} {D : va_G} {g : Nat → Nat} {cI cB cZ cQ : ClassId} {Am : (Nat → Prop) → State → Heap → Prop} {aK aV : Nat → Nat} (O : tO l g cI cB cZ cQ Am aK aV) (P : gAm Am) (N : Nat) (x1 : Int32) (S : gS) (o : tR) (hF : fX11_port N x1 S = some o) : gN l yX11_port cX11_port 4 ((some .int)) 72 1 D (xtys cI cB cZ cQ) (xcell g cI cB cZ cQ) xord g Am [.ref (g 0), .int x1] S false o :=
  gN_of P (by decide) (Nat.le_of_ble_eq_true rfl) (fun p e s m args below meth c ls C Tb X hl => bX11_port_0 C O Tb X (lv_sub hl [0, 1] rfl) hF)
-- X11.count
noncomputable def fX11_count_b220 (N : Nat) (S : gS) : Option (tR) := some (1, 0, S)
theorem bX11_count_220 {N : Nat} {S : gS} {H : Heap} {locs : List Loc} {ls : Array Slot} {o : tR} (C : gC p s m args meth c cX11_count 3 RX11 ((some .int)) D (xtys cI cB cZ cQ) xord g Am) (O : tO l g cI cB cZ cQ Am aK aV) (Tb : ∀ x ∈ c.exceptionTable.toList, False) (X : gX D (xcell g cI cB cZ cQ) xord g S s H locs) (hl : lv_has ls 3 []) (hF : fX11_count_b220 N S = some o) : W p l e (rmx 6 1) s m args below meth c H locs 0 0 (gEX below args s D (xtys cI cB cZ cQ) (xcell g cI cB cZ cQ) xord g 1 false o) (F0 m 220 ls []) := by
  unfold fX11_count_b220 at hF
  cases hF
  exact t_newN (ii := 19) C O Tb X hl.1 rfl dX11_count_220 dX11_count_223 dX11_count_224 dX11_count_226 dX11_count_229 (Nat.le_of_ble_eq_true rfl) (Nat.le_of_ble_eq_true rfl) (Nat.le_of_ble_eq_true rfl) (Nat.le_of_ble_eq_true rfl) (by decide) (by decide)
noncomputable def fX11_count_b210 (N : Nat) (S : gS) : Option (tR) := some (0, S 32 2, S)
theorem bX11_count_210 {N : Nat} {S : gS} {H : Heap} {locs : List Loc} {ls : Array Slot} {o : tR} (C : gC p s m args meth c cX11_count 3 RX11 ((some .int)) D (xtys cI cB cZ cQ) xord g Am) (O : tO l g cI cB cZ cQ Am aK aV) (Tb : ∀ x ∈ c.exceptionTable.toList, False) (X : gX D (xcell g cI cB cZ cQ) xord g S s H locs) (hl : lv_has ls 3 [(0, .ref (g 0))]) (hF : fX11_count_b210 N S = some o) : W p l e (rmx 6 1) s m args below meth c H locs 0 0 (gEX below args s D (xtys cI cB cZ cQ) (xcell g cI cB cZ cQ) xord g 1 false o) (F0 m 210 ls []) := by
  unfold fX11_count_b210 at hF
  refine lv_aload_n C.1.1 C.1.2.1 dX11_count_210 rfl (lv_at hl 0 rfl) ?_
  refine xg_X11_19 C O.1.1 X (k := 0) rfl (j := 20) rfl dX11_count_211 ?_
  refine xg_X11_153 C O.1.1 X (k := 20) rfl (j := 32) rfl dX11_count_214 ?_
  refine lv_iconst (v := 2) C.1.1 C.1.2.1 dX11_count_217 (by decide) ?_
  refine x_rI C X (k := 32) rfl (n := 3) rfl (j := 2) (inb_vp (by decide)) (by decide) dX11_count_218 ?_
  cases hF
  exact t_iret C X (by decide) (by decide) dX11_count_219
noncomputable def fX11_count_b200 (N : Nat) (S : gS) : Option (tR) := some (0, S 32 1, S)
theorem bX11_count_200 {N : Nat} {S : gS} {H : Heap} {locs : List Loc} {ls : Array Slot} {o : tR} (C : gC p s m args meth c cX11_count 3 RX11 ((some .int)) D (xtys cI cB cZ cQ) xord g Am) (O : tO l g cI cB cZ cQ Am aK aV) (Tb : ∀ x ∈ c.exceptionTable.toList, False) (X : gX D (xcell g cI cB cZ cQ) xord g S s H locs) (hl : lv_has ls 3 [(0, .ref (g 0))]) (hF : fX11_count_b200 N S = some o) : W p l e (rmx 6 1) s m args below meth c H locs 0 0 (gEX below args s D (xtys cI cB cZ cQ) (xcell g cI cB cZ cQ) xord g 1 false o) (F0 m 200 ls []) := by
  unfold fX11_count_b200 at hF
  refine lv_aload_n C.1.1 C.1.2.1 dX11_count_200 rfl (lv_at hl 0 rfl) ?_
  refine xg_X11_19 C O.1.1 X (k := 0) rfl (j := 20) rfl dX11_count_201 ?_
  refine xg_X11_153 C O.1.1 X (k := 20) rfl (j := 32) rfl dX11_count_204 ?_
  refine lv_iconst (v := 1) C.1.1 C.1.2.1 dX11_count_207 (by decide) ?_
  refine x_rI C X (k := 32) rfl (n := 3) rfl (j := 1) (inb_vp (by decide)) (by decide) dX11_count_208 ?_
  cases hF
  exact t_iret C X (by decide) (by decide) dX11_count_209
noncomputable def fX11_count_b190 (N : Nat) (S : gS) : Option (tR) := some (0, S 32 0, S)
theorem bX11_count_190 {N : Nat} {S : gS} {H : Heap} {locs : List Loc} {ls : Array Slot} {o : tR} (C : gC p s m args meth c cX11_count 3 RX11 ((some .int)) D (xtys cI cB cZ cQ) xord g Am) (O : tO l g cI cB cZ cQ Am aK aV) (Tb : ∀ x ∈ c.exceptionTable.toList, False) (X : gX D (xcell g cI cB cZ cQ) xord g S s H locs) (hl : lv_has ls 3 [(0, .ref (g 0))]) (hF : fX11_count_b190 N S = some o) : W p l e (rmx 6 1) s m args below meth c H locs 0 0 (gEX below args s D (xtys cI cB cZ cQ) (xcell g cI cB cZ cQ) xord g 1 false o) (F0 m 190 ls []) := by
  unfold fX11_count_b190 at hF
  refine lv_aload_n C.1.1 C.1.2.1 dX11_count_190 rfl (lv_at hl 0 rfl) ?_
  refine xg_X11_19 C O.1.1 X (k := 0) rfl (j := 20) rfl dX11_count_191 ?_
  refine xg_X11_153 C O.1.1 X (k := 20) rfl (j := 32) rfl dX11_count_194 ?_
  refine lv_iconst (v := 0) C.1.1 C.1.2.1 dX11_count_197 (by decide) ?_
  refine x_rI C X (k := 32) rfl (n := 3) rfl (j := 0) (inb_vp (by decide)) (by decide) dX11_count_198 ?_
  cases hF
  exact t_iret C X (by decide) (by decide) dX11_count_199
noncomputable def fX11_count_b179 (N : Nat) (S : gS) : Option (tR) := some (0, S 2 1, S)
theorem bX11_count_179 {N : Nat} {S : gS} {H : Heap} {locs : List Loc} {ls : Array Slot} {o : tR} (C : gC p s m args meth c cX11_count 3 RX11 ((some .int)) D (xtys cI cB cZ cQ) xord g Am) (O : tO l g cI cB cZ cQ Am aK aV) (Tb : ∀ x ∈ c.exceptionTable.toList, False) (X : gX D (xcell g cI cB cZ cQ) xord g S s H locs) (hl : lv_has ls 3 [(0, .ref (g 0))]) (hF : fX11_count_b179 N S = some o) : W p l e (rmx 6 1) s m args below meth c H locs 0 0 (gEX below args s D (xtys cI cB cZ cQ) (xcell g cI cB cZ cQ) xord g 1 false o) (F0 m 179 ls []) := by
  unfold fX11_count_b179 at hF
  refine lv_aload_n C.1.1 C.1.2.1 dX11_count_179 rfl (lv_at hl 0 rfl) ?_
  refine xg_X11_12 C O.1.1 X (k := 0) rfl (j := 1) rfl dX11_count_180 ?_
  refine xg_X11_69 C O.1.1 X (k := 1) rfl (j := 2) rfl dX11_count_183 ?_
  refine xg_X11_73 C O.1.1 X (k := 2) rfl dX11_count_186 ?_
  cases hF
  exact t_iret C X (by decide) (by decide) dX11_count_189
noncomputable def fX11_count_b168 (N : Nat) (S : gS) : Option (tR) := some (0, S 28 3, S)
theorem bX11_count_168 {N : Nat} {S : gS} {H : Heap} {locs : List Loc} {ls : Array Slot} {o : tR} (C : gC p s m args meth c cX11_count 3 RX11 ((some .int)) D (xtys cI cB cZ cQ) xord g Am) (O : tO l g cI cB cZ cQ Am aK aV) (Tb : ∀ x ∈ c.exceptionTable.toList, False) (X : gX D (xcell g cI cB cZ cQ) xord g S s H locs) (hl : lv_has ls 3 [(0, .ref (g 0))]) (hF : fX11_count_b168 N S = some o) : W p l e (rmx 6 1) s m args below meth c H locs 0 0 (gEX below args s D (xtys cI cB cZ cQ) (xcell g cI cB cZ cQ) xord g 1 false o) (F0 m 168 ls []) := by
  unfold fX11_count_b168 at hF
  refine lv_aload_n C.1.1 C.1.2.1 dX11_count_168 rfl (lv_at hl 0 rfl) ?_
  refine xg_X11_19 C O.1.1 X (k := 0) rfl (j := 20) rfl dX11_count_169 ?_
  refine xg_X11_146 C O.1.1 X (k := 20) rfl (j := 28) rfl dX11_count_172 ?_
  refine xg_X11_150 C O.1.1 X (k := 28) rfl dX11_count_175 ?_
  cases hF
  exact t_iret C X (by decide) (by decide) dX11_count_178
noncomputable def fX11_count_b157 (N : Nat) (S : gS) : Option (tR) := some (0, S 26 1, S)
theorem bX11_count_157 {N : Nat} {S : gS} {H : Heap} {locs : List Loc} {ls : Array Slot} {o : tR} (C : gC p s m args meth c cX11_count 3 RX11 ((some .int)) D (xtys cI cB cZ cQ) xord g Am) (O : tO l g cI cB cZ cQ Am aK aV) (Tb : ∀ x ∈ c.exceptionTable.toList, False) (X : gX D (xcell g cI cB cZ cQ) xord g S s H locs) (hl : lv_has ls 3 [(0, .ref (g 0))]) (hF : fX11_count_b157 N S = some o) : W p l e (rmx 6 1) s m args below meth c H locs 0 0 (gEX below args s D (xtys cI cB cZ cQ) (xcell g cI cB cZ cQ) xord g 1 false o) (F0 m 157 ls []) := by
  unfold fX11_count_b157 at hF
  refine lv_aload_n C.1.1 C.1.2.1 dX11_count_157 rfl (lv_at hl 0 rfl) ?_
  refine xg_X11_19 C O.1.1 X (k := 0) rfl (j := 20) rfl dX11_count_158 ?_
  refine xg_X11_137 C O.1.1 X (k := 20) rfl (j := 26) rfl dX11_count_161 ?_
  refine xg_X11_141 C O.1.1 X (k := 26) rfl dX11_count_164 ?_
  cases hF
  exact t_iret C X (by decide) (by decide) dX11_count_167
noncomputable def fX11_count_b148 (N : Nat) (S : gS) : Option (tR) := lt (xtw S) fun T1 => (bnd (fX7_sins N 21 T1 S) fun q1 => (some (0, q1.1, q1.2)))
theorem bX11_count_148 {N : Nat} {S : gS} {H : Heap} {locs : List Loc} {ls : Array Slot} {o : tR} (C : gC p s m args meth c cX11_count 3 RX11 ((some .int)) D (xtys cI cB cZ cQ) xord g Am) (O : tO l g cI cB cZ cQ Am aK aV) (Tb : ∀ x ∈ c.exceptionTable.toList, False) (X : gX D (xcell g cI cB cZ cQ) xord g S s H locs) (hl : lv_has ls 3 [(0, .ref (g 0)), (2, .ref (g 21))]) (hF : fX11_count_b148 N S = some o) : W p l e (rmx 6 1) s m args below meth c H locs 0 0 (gEX below args s D (xtys cI cB cZ cQ) (xcell g cI cB cZ cQ) xord g 1 false o) (F0 m 148 ls []) := by
  unfold fX11_count_b148 at hF
  refine lv_aload_n C.1.1 C.1.2.1 dX11_count_148 rfl (lv_at hl 1 rfl) ?_
  refine lv_aload_n C.1.1 C.1.2.1 dX11_count_149 rfl (lv_at hl 0 rfl) ?_
  obtain ⟨T1, eT1, hF⟩ := lt_some hF
  have hk_T1 := xtw_k eT1
  refine xg_X11_57 C O.1.1 X (T := T1) eT1 (k := 0) rfl dX11_count_150 ?_
  obtain ⟨q1, hq1, hF⟩ := bnd_some hF
  refine x_callVi C X (k := 21) xv_X11_134 (rfl : xk 21 = 7) rfl rfl (by decide) (kX7_sins O.1.1 C.2.2.2.2.1 N 21 T1 (rfl : xk 21 = 7) (hk_T1 : xk T1 = 9) S q1 hq1) (Nat.le_of_ble_eq_true rfl) (Nat.le_of_ble_eq_true rfl) (Nat.le_of_ble_eq_true rfl) (Nat.le_of_ble_eq_true rfl) rfl hl.1 rfl (Nat.le_of_ble_eq_true rfl) dX11_count_153 (fun H locs X => ?_)
  cases hF
  exact t_iret C X (by decide) (by decide) dX11_count_156
noncomputable def fX11_count_b139 (N : Nat) (S : gS) : Option (tR) := lt (xtw S) fun T1 => (bnd (fX7_purses N 21 T1 S) fun q1 => (some (0, q1.1, q1.2)))
theorem bX11_count_139 {N : Nat} {S : gS} {H : Heap} {locs : List Loc} {ls : Array Slot} {o : tR} (C : gC p s m args meth c cX11_count 3 RX11 ((some .int)) D (xtys cI cB cZ cQ) xord g Am) (O : tO l g cI cB cZ cQ Am aK aV) (Tb : ∀ x ∈ c.exceptionTable.toList, False) (X : gX D (xcell g cI cB cZ cQ) xord g S s H locs) (hl : lv_has ls 3 [(0, .ref (g 0)), (2, .ref (g 21))]) (hF : fX11_count_b139 N S = some o) : W p l e (rmx 6 1) s m args below meth c H locs 0 0 (gEX below args s D (xtys cI cB cZ cQ) (xcell g cI cB cZ cQ) xord g 1 false o) (F0 m 139 ls []) := by
  unfold fX11_count_b139 at hF
  refine lv_aload_n C.1.1 C.1.2.1 dX11_count_139 rfl (lv_at hl 1 rfl) ?_
  refine lv_aload_n C.1.1 C.1.2.1 dX11_count_140 rfl (lv_at hl 0 rfl) ?_
  obtain ⟨T1, eT1, hF⟩ := lt_some hF
  have hk_T1 := xtw_k eT1
  refine xg_X11_57 C O.1.1 X (T := T1) eT1 (k := 0) rfl dX11_count_141 ?_
  obtain ⟨q1, hq1, hF⟩ := bnd_some hF
  refine x_callVi C X (k := 21) xv_X11_131 (rfl : xk 21 = 7) rfl rfl (by decide) (kX7_purses O.1.1 C.2.2.2.2.1 N 21 T1 (rfl : xk 21 = 7) (hk_T1 : xk T1 = 9) S q1 hq1) (Nat.le_of_ble_eq_true rfl) (Nat.le_of_ble_eq_true rfl) (Nat.le_of_ble_eq_true rfl) (Nat.le_of_ble_eq_true rfl) rfl hl.1 rfl (Nat.le_of_ble_eq_true rfl) dX11_count_144 (fun H locs X => ?_)
  cases hF
  exact t_iret C X (by decide) (by decide) dX11_count_147
noncomputable def fX11_count_b134 (N : Nat) (S : gS) : Option (tR) := some (0, S 21 1, S)
theorem bX11_count_134 {N : Nat} {S : gS} {H : Heap} {locs : List Loc} {ls : Array Slot} {o : tR} (C : gC p s m args meth c cX11_count 3 RX11 ((some .int)) D (xtys cI cB cZ cQ) xord g Am) (O : tO l g cI cB cZ cQ Am aK aV) (Tb : ∀ x ∈ c.exceptionTable.toList, False) (X : gX D (xcell g cI cB cZ cQ) xord g S s H locs) (hl : lv_has ls 3 [(2, .ref (g 21))]) (hF : fX11_count_b134 N S = some o) : W p l e (rmx 6 1) s m args below meth c H locs 0 0 (gEX below args s D (xtys cI cB cZ cQ) (xcell g cI cB cZ cQ) xord g 1 false o) (F0 m 134 ls []) := by
  unfold fX11_count_b134 at hF
  refine lv_aload_n C.1.1 C.1.2.1 dX11_count_134 rfl (lv_at hl 0 rfl) ?_
  refine xg_X11_128 C O.1.1 X (k := 21) rfl dX11_count_135 ?_
  cases hF
  exact t_iret C X (by decide) (by decide) dX11_count_138
noncomputable def fX11_count_b125 (N : Nat) (S : gS) : Option (tR) := lt (xtw S) fun T1 => (bnd (fX7_hiredBits N 21 T1 S) fun q1 => (some (0, q1.1, q1.2)))
theorem bX11_count_125 {N : Nat} {S : gS} {H : Heap} {locs : List Loc} {ls : Array Slot} {o : tR} (C : gC p s m args meth c cX11_count 3 RX11 ((some .int)) D (xtys cI cB cZ cQ) xord g Am) (O : tO l g cI cB cZ cQ Am aK aV) (Tb : ∀ x ∈ c.exceptionTable.toList, False) (X : gX D (xcell g cI cB cZ cQ) xord g S s H locs) (hl : lv_has ls 3 [(0, .ref (g 0)), (2, .ref (g 21))]) (hF : fX11_count_b125 N S = some o) : W p l e (rmx 6 1) s m args below meth c H locs 0 0 (gEX below args s D (xtys cI cB cZ cQ) (xcell g cI cB cZ cQ) xord g 1 false o) (F0 m 125 ls []) := by
  unfold fX11_count_b125 at hF
  refine lv_aload_n C.1.1 C.1.2.1 dX11_count_125 rfl (lv_at hl 1 rfl) ?_
  refine lv_aload_n C.1.1 C.1.2.1 dX11_count_126 rfl (lv_at hl 0 rfl) ?_
  obtain ⟨T1, eT1, hF⟩ := lt_some hF
  have hk_T1 := xtw_k eT1
  refine xg_X11_57 C O.1.1 X (T := T1) eT1 (k := 0) rfl dX11_count_127 ?_
  obtain ⟨q1, hq1, hF⟩ := bnd_some hF
  refine x_callVi C X (k := 21) xv_X11_124 (rfl : xk 21 = 7) rfl rfl (by decide) (kX7_hiredBits O.1.1 C.2.2.2.2.1 N 21 T1 (rfl : xk 21 = 7) (hk_T1 : xk T1 = 9) S q1 hq1) (Nat.le_of_ble_eq_true rfl) (Nat.le_of_ble_eq_true rfl) (Nat.le_of_ble_eq_true rfl) (Nat.le_of_ble_eq_true rfl) rfl hl.1 rfl (Nat.le_of_ble_eq_true rfl) dX11_count_130 (fun H locs X => ?_)
  cases hF
  exact t_iret C X (by decide) (by decide) dX11_count_133
noncomputable def fX11_count_b117 (N : Nat) (S : gS) : Option (tR) := lt (xtw S) fun T1 => (bnd (fX9_mostSin N T1 S) fun q1 => (some (0, q1.1, q1.2)))
theorem bX11_count_117 {N : Nat} {S : gS} {H : Heap} {locs : List Loc} {ls : Array Slot} {o : tR} (C : gC p s m args meth c cX11_count 3 RX11 ((some .int)) D (xtys cI cB cZ cQ) xord g Am) (O : tO l g cI cB cZ cQ Am aK aV) (Tb : ∀ x ∈ c.exceptionTable.toList, False) (X : gX D (xcell g cI cB cZ cQ) xord g S s H locs) (hl : lv_has ls 3 [(0, .ref (g 0))]) (hF : fX11_count_b117 N S = some o) : W p l e (rmx 6 1) s m args below meth c H locs 0 0 (gEX below args s D (xtys cI cB cZ cQ) (xcell g cI cB cZ cQ) xord g 1 false o) (F0 m 117 ls []) := by
  unfold fX11_count_b117 at hF
  refine lv_aload_n C.1.1 C.1.2.1 dX11_count_117 rfl (lv_at hl 0 rfl) ?_
  obtain ⟨T1, eT1, hF⟩ := lt_some hF
  have hk_T1 := xtw_k eT1
  refine xg_X11_57 C O.1.1 X (T := T1) eT1 (k := 0) rfl dX11_count_118 ?_
  obtain ⟨q1, hq1, hF⟩ := bnd_some hF
  refine x_callVi C X (k := T1) xv_X11_120 hk_T1 rfl rfl (by decide) (kX9_mostSin O.1.1 C.2.2.2.2.1 N T1 (hk_T1 : xk T1 = 9) S q1 hq1) (Nat.le_of_ble_eq_true rfl) (Nat.le_of_ble_eq_true rfl) (Nat.le_of_ble_eq_true rfl) (Nat.le_of_ble_eq_true rfl) rfl hl.1 rfl (Nat.le_of_ble_eq_true rfl) dX11_count_121 (fun H locs X => ?_)
  cases hF
  exact t_iret C X (by decide) (by decide) dX11_count_124
noncomputable def fX11_count_b105 (N : Nat) (S : gS) : Option (tR) := lt (xtw S) fun T1 => (bnd (fX9_wetOf N T1 (S 21 0) S) fun q1 => (some (0, q1.1, q1.2)))
theorem bX11_count_105 {N : Nat} {S : gS} {H : Heap} {locs : List Loc} {ls : Array Slot} {o : tR} (C : gC p s m args meth c cX11_count 3 RX11 ((some .int)) D (xtys cI cB cZ cQ) xord g Am) (O : tO l g cI cB cZ cQ Am aK aV) (Tb : ∀ x ∈ c.exceptionTable.toList, False) (X : gX D (xcell g cI cB cZ cQ) xord g S s H locs) (hl : lv_has ls 3 [(0, .ref (g 0)), (2, .ref (g 21))]) (hF : fX11_count_b105 N S = some o) : W p l e (rmx 6 1) s m args below meth c H locs 0 0 (gEX below args s D (xtys cI cB cZ cQ) (xcell g cI cB cZ cQ) xord g 1 false o) (F0 m 105 ls []) := by
  unfold fX11_count_b105 at hF
  refine lv_aload_n C.1.1 C.1.2.1 dX11_count_105 rfl (lv_at hl 0 rfl) ?_
  obtain ⟨T1, eT1, hF⟩ := lt_some hF
  have hk_T1 := xtw_k eT1
  refine xg_X11_57 C O.1.1 X (T := T1) eT1 (k := 0) rfl dX11_count_106 ?_
  refine lv_aload_n C.1.1 C.1.2.1 dX11_count_109 rfl (lv_at hl 1 rfl) ?_
  refine xg_X11_114 C O.1.1 X (k := 21) rfl dX11_count_110 ?_
  obtain ⟨q1, hq1, hF⟩ := bnd_some hF
  refine x_callVi C X (k := T1) xv_X11_117 hk_T1 rfl rfl (by decide) (kX9_wetOf O.1.1 C.2.2.2.2.1 N T1 (S 21 0) (hk_T1 : xk T1 = 9) S q1 hq1) (Nat.le_of_ble_eq_true rfl) (Nat.le_of_ble_eq_true rfl) (Nat.le_of_ble_eq_true rfl) (Nat.le_of_ble_eq_true rfl) rfl hl.1 rfl (Nat.le_of_ble_eq_true rfl) dX11_count_113 (fun H locs X => ?_)
  cases hF
  exact t_iret C X (by decide) (by decide) dX11_count_116
noncomputable def fX11_count_b100 (N : Nat) (S : gS) : Option (tR) := some (0, S 21 0, S)
theorem bX11_count_100 {N : Nat} {S : gS} {H : Heap} {locs : List Loc} {ls : Array Slot} {o : tR} (C : gC p s m args meth c cX11_count 3 RX11 ((some .int)) D (xtys cI cB cZ cQ) xord g Am) (O : tO l g cI cB cZ cQ Am aK aV) (Tb : ∀ x ∈ c.exceptionTable.toList, False) (X : gX D (xcell g cI cB cZ cQ) xord g S s H locs) (hl : lv_has ls 3 [(2, .ref (g 21))]) (hF : fX11_count_b100 N S = some o) : W p l e (rmx 6 1) s m args below meth c H locs 0 0 (gEX below args s D (xtys cI cB cZ cQ) (xcell g cI cB cZ cQ) xord g 1 false o) (F0 m 100 ls []) := by
  unfold fX11_count_b100 at hF
  refine lv_aload_n C.1.1 C.1.2.1 dX11_count_100 rfl (lv_at hl 0 rfl) ?_
  refine xg_X11_114 C O.1.1 X (k := 21) rfl dX11_count_101 ?_
  cases hF
  exact t_iret C X (by decide) (by decide) dX11_count_104
noncomputable def fX11_count_b92 (N : Nat) (S : gS) : Option (tR) := lt (xtw S) fun T1 => (some (0, S T1 5, S))
theorem bX11_count_92 {N : Nat} {S : gS} {H : Heap} {locs : List Loc} {ls : Array Slot} {o : tR} (C : gC p s m args meth c cX11_count 3 RX11 ((some .int)) D (xtys cI cB cZ cQ) xord g Am) (O : tO l g cI cB cZ cQ Am aK aV) (Tb : ∀ x ∈ c.exceptionTable.toList, False) (X : gX D (xcell g cI cB cZ cQ) xord g S s H locs) (hl : lv_has ls 3 [(0, .ref (g 0))]) (hF : fX11_count_b92 N S = some o) : W p l e (rmx 6 1) s m args below meth c H locs 0 0 (gEX below args s D (xtys cI cB cZ cQ) (xcell g cI cB cZ cQ) xord g 1 false o) (F0 m 92 ls []) := by
  unfold fX11_count_b92 at hF
  refine lv_aload_n C.1.1 C.1.2.1 dX11_count_92 rfl (lv_at hl 0 rfl) ?_
  obtain ⟨T1, eT1, hF⟩ := lt_some hF
  have hk_T1 := xtw_k eT1
  refine xg_X11_57 C O.1.1 X (T := T1) eT1 (k := 0) rfl dX11_count_93 ?_
  refine xg_X11_111 C O.1.1 X (k := T1) hk_T1 dX11_count_96 ?_
  cases hF
  exact t_iret C X (by decide) (by decide) dX11_count_99
noncomputable def fX11_count_b84 (N : Nat) (S : gS) : Option (tR) := lt (xtw S) fun T1 => (some (0, S T1 0, S))
theorem bX11_count_84 {N : Nat} {S : gS} {H : Heap} {locs : List Loc} {ls : Array Slot} {o : tR} (C : gC p s m args meth c cX11_count 3 RX11 ((some .int)) D (xtys cI cB cZ cQ) xord g Am) (O : tO l g cI cB cZ cQ Am aK aV) (Tb : ∀ x ∈ c.exceptionTable.toList, False) (X : gX D (xcell g cI cB cZ cQ) xord g S s H locs) (hl : lv_has ls 3 [(0, .ref (g 0))]) (hF : fX11_count_b84 N S = some o) : W p l e (rmx 6 1) s m args below meth c H locs 0 0 (gEX below args s D (xtys cI cB cZ cQ) (xcell g cI cB cZ cQ) xord g 1 false o) (F0 m 84 ls []) := by
  unfold fX11_count_b84 at hF
  refine lv_aload_n C.1.1 C.1.2.1 dX11_count_84 rfl (lv_at hl 0 rfl) ?_
  obtain ⟨T1, eT1, hF⟩ := lt_some hF
  have hk_T1 := xtw_k eT1
  refine xg_X11_57 C O.1.1 X (T := T1) eT1 (k := 0) rfl dX11_count_85 ?_
  refine xg_X11_108 C O.1.1 X (k := T1) hk_T1 dX11_count_88 ?_
  cases hF
  exact t_iret C X (by decide) (by decide) dX11_count_91
noncomputable def fX11_count_b0 (N : Nat) (x1 : Int32) (S : gS) : Option (tR) := if x1 = 0 then fX11_count_b84 N S else if x1 = 1 then fX11_count_b92 N S else if x1 = 2 then fX11_count_b100 N S else if x1 = 3 then fX11_count_b105 N S else if x1 = 4 then fX11_count_b117 N S else if x1 = 5 then fX11_count_b125 N S else if x1 = 6 then fX11_count_b134 N S else if x1 = 7 then fX11_count_b139 N S else if x1 = 8 then fX11_count_b148 N S else if x1 = 9 then fX11_count_b157 N S else if x1 = 10 then fX11_count_b168 N S else if x1 = 11 then fX11_count_b179 N S else if x1 = 12 then fX11_count_b190 N S else if x1 = 13 then fX11_count_b200 N S else if x1 = 14 then fX11_count_b210 N S else fX11_count_b220 N S
theorem bX11_count_0 {N : Nat} {x1 : Int32} {S : gS} {H : Heap} {locs : List Loc} {ls : Array Slot} {o : tR} (C : gC p s m args meth c cX11_count 3 RX11 ((some .int)) D (xtys cI cB cZ cQ) xord g Am) (O : tO l g cI cB cZ cQ Am aK aV) (Tb : ∀ x ∈ c.exceptionTable.toList, False) (X : gX D (xcell g cI cB cZ cQ) xord g S s H locs) (hl : lv_has ls 3 [(0, .ref (g 0)), (1, .int x1)]) (hF : fX11_count_b0 N x1 S = some o) : W p l e (rmx 6 1) s m args below meth c H locs 0 0 (gEX below args s D (xtys cI cB cZ cQ) (xcell g cI cB cZ cQ) xord g 1 false o) (F0 m 0 ls []) := by
  unfold fX11_count_b0 at hF
  refine lv_aload_n C.1.1 C.1.2.1 dX11_count_0 rfl (lv_at hl 0 rfl) ?_
  refine xg_X11_19 C O.1.1 X (k := 0) rfl (j := 20) rfl dX11_count_1 ?_
  refine xg_X11_105 C O.1.1 X (k := 20) rfl (j := 21) rfl dX11_count_4 ?_
  refine lv_astore_n (lv' := [(2, .ref (g 21)), (0, .ref (g 0)), (1, .int x1)]) C.1.1 C.1.2.1 dX11_count_7 rfl hl (by decide) rfl (fun ls hl => ?_)
  refine lv_iload_n C.1.1 C.1.2.1 dX11_count_8 rfl (lv_at hl 2 rfl) ?_
  by_cases hz_0 : x1 = 0
  · rw [if_pos hz_0] at hF
    refine lv_tableIn (off := 75) (tgt := 84) C.1.1 C.1.2.1 dX11_count_9 (by rw [hz_0]; decide) (by rw [hz_0]; decide) (by rw [hz_0]; decide) (by decide) ?_
    exact bX11_count_84 C O Tb X (lv_sub hl [1] rfl) hF
  rw [if_neg hz_0] at hF
  by_cases hz_1 : x1 = 1
  · rw [if_pos hz_1] at hF
    refine lv_tableIn (off := 83) (tgt := 92) C.1.1 C.1.2.1 dX11_count_9 (by rw [hz_1]; decide) (by rw [hz_1]; decide) (by rw [hz_1]; decide) (by decide) ?_
    exact bX11_count_92 C O Tb X (lv_sub hl [1] rfl) hF
  rw [if_neg hz_1] at hF
  by_cases hz_2 : x1 = 2
  · rw [if_pos hz_2] at hF
    refine lv_tableIn (off := 91) (tgt := 100) C.1.1 C.1.2.1 dX11_count_9 (by rw [hz_2]; decide) (by rw [hz_2]; decide) (by rw [hz_2]; decide) (by decide) ?_
    exact bX11_count_100 C O Tb X (lv_sub hl [0] rfl) hF
  rw [if_neg hz_2] at hF
  by_cases hz_3 : x1 = 3
  · rw [if_pos hz_3] at hF
    refine lv_tableIn (off := 96) (tgt := 105) C.1.1 C.1.2.1 dX11_count_9 (by rw [hz_3]; decide) (by rw [hz_3]; decide) (by rw [hz_3]; decide) (by decide) ?_
    exact bX11_count_105 C O Tb X (lv_sub hl [1, 0] rfl) hF
  rw [if_neg hz_3] at hF
  by_cases hz_4 : x1 = 4
  · rw [if_pos hz_4] at hF
    refine lv_tableIn (off := 108) (tgt := 117) C.1.1 C.1.2.1 dX11_count_9 (by rw [hz_4]; decide) (by rw [hz_4]; decide) (by rw [hz_4]; decide) (by decide) ?_
    exact bX11_count_117 C O Tb X (lv_sub hl [1] rfl) hF
  rw [if_neg hz_4] at hF
  by_cases hz_5 : x1 = 5
  · rw [if_pos hz_5] at hF
    refine lv_tableIn (off := 116) (tgt := 125) C.1.1 C.1.2.1 dX11_count_9 (by rw [hz_5]; decide) (by rw [hz_5]; decide) (by rw [hz_5]; decide) (by decide) ?_
    exact bX11_count_125 C O Tb X (lv_sub hl [1, 0] rfl) hF
  rw [if_neg hz_5] at hF
  by_cases hz_6 : x1 = 6
  · rw [if_pos hz_6] at hF
    refine lv_tableIn (off := 125) (tgt := 134) C.1.1 C.1.2.1 dX11_count_9 (by rw [hz_6]; decide) (by rw [hz_6]; decide) (by rw [hz_6]; decide) (by decide) ?_
    exact bX11_count_134 C O Tb X (lv_sub hl [0] rfl) hF
  rw [if_neg hz_6] at hF
  by_cases hz_7 : x1 = 7
  · rw [if_pos hz_7] at hF
    refine lv_tableIn (off := 130) (tgt := 139) C.1.1 C.1.2.1 dX11_count_9 (by rw [hz_7]; decide) (by rw [hz_7]; decide) (by rw [hz_7]; decide) (by decide) ?_
    exact bX11_count_139 C O Tb X (lv_sub hl [1, 0] rfl) hF
  rw [if_neg hz_7] at hF
  by_cases hz_8 : x1 = 8
  · rw [if_pos hz_8] at hF
    refine lv_tableIn (off := 139) (tgt := 148) C.1.1 C.1.2.1 dX11_count_9 (by rw [hz_8]; decide) (by rw [hz_8]; decide) (by rw [hz_8]; decide) (by decide) ?_
    exact bX11_count_148 C O Tb X (lv_sub hl [1, 0] rfl) hF
  rw [if_neg hz_8] at hF
  by_cases hz_9 : x1 = 9
  · rw [if_pos hz_9] at hF
    refine lv_tableIn (off := 148) (tgt := 157) C.1.1 C.1.2.1 dX11_count_9 (by rw [hz_9]; decide) (by rw [hz_9]; decide) (by rw [hz_9]; decide) (by decide) ?_
    exact bX11_count_157 C O Tb X (lv_sub hl [1] rfl) hF
  rw [if_neg hz_9] at hF
  by_cases hz_10 : x1 = 10
  · rw [if_pos hz_10] at hF
    refine lv_tableIn (off := 159) (tgt := 168) C.1.1 C.1.2.1 dX11_count_9 (by rw [hz_10]; decide) (by rw [hz_10]; decide) (by rw [hz_10]; decide) (by decide) ?_
    exact bX11_count_168 C O Tb X (lv_sub hl [1] rfl) hF
  rw [if_neg hz_10] at hF
  by_cases hz_11 : x1 = 11
  · rw [if_pos hz_11] at hF
    refine lv_tableIn (off := 170) (tgt := 179) C.1.1 C.1.2.1 dX11_count_9 (by rw [hz_11]; decide) (by rw [hz_11]; decide) (by rw [hz_11]; decide) (by decide) ?_
    exact bX11_count_179 C O Tb X (lv_sub hl [1] rfl) hF
  rw [if_neg hz_11] at hF
  by_cases hz_12 : x1 = 12
  · rw [if_pos hz_12] at hF
    refine lv_tableIn (off := 181) (tgt := 190) C.1.1 C.1.2.1 dX11_count_9 (by rw [hz_12]; decide) (by rw [hz_12]; decide) (by rw [hz_12]; decide) (by decide) ?_
    exact bX11_count_190 C O Tb X (lv_sub hl [1] rfl) hF
  rw [if_neg hz_12] at hF
  by_cases hz_13 : x1 = 13
  · rw [if_pos hz_13] at hF
    refine lv_tableIn (off := 191) (tgt := 200) C.1.1 C.1.2.1 dX11_count_9 (by rw [hz_13]; decide) (by rw [hz_13]; decide) (by rw [hz_13]; decide) (by decide) ?_
    exact bX11_count_200 C O Tb X (lv_sub hl [1] rfl) hF
  rw [if_neg hz_13] at hF
  by_cases hz_14 : x1 = 14
  · rw [if_pos hz_14] at hF
    refine lv_tableIn (off := 201) (tgt := 210) C.1.1 C.1.2.1 dX11_count_9 (by rw [hz_14]; decide) (by rw [hz_14]; decide) (by rw [hz_14]; decide) (by decide) ?_
    exact bX11_count_210 C O Tb X (lv_sub hl [1] rfl) hF
  rw [if_neg hz_14] at hF
  refine lv_tableOut (tgt := 220) C.1.1 C.1.2.1 dX11_count_9 (g_tsw 0 14 _ ?_) (by decide) ?_
  · intro i hi1 hi2
    rcases (show i = 0 ∨ i = 1 ∨ i = 2 ∨ i = 3 ∨ i = 4 ∨ i = 5 ∨ i = 6 ∨ i = 7 ∨ i = 8 ∨ i = 9 ∨ i = 10 ∨ i = 11 ∨ i = 12 ∨ i = 13 ∨ i = 14 by omega) with rfl | rfl | rfl | rfl | rfl | rfl | rfl | rfl | rfl | rfl | rfl | rfl | rfl | rfl | rfl
    · exact hz_0
    · exact hz_1
    · exact hz_2
    · exact hz_3
    · exact hz_4
    · exact hz_5
    · exact hz_6
    · exact hz_7
    · exact hz_8
    · exact hz_9
    · exact hz_10
    · exact hz_11
    · exact hz_12
    · exact hz_13
    · exact hz_14
  exact bX11_count_220 C O Tb X (lv_sub hl [] rfl) hF
noncomputable def fX11_count (N : Nat) (x1 : Int32) (S : gS) : Option (tR) := fX11_count_b0 N x1 S
theorem kX11_count {l : Launch} {D : va_G} {g : Nat → Nat} {cI cB cZ cQ : ClassId} {Am : (Nat → Prop) → State → Heap → Prop} {aK aV : Nat → Nat} (O : tO l g cI cB cZ cQ Am aK aV) (P : gAm Am) (N : Nat) (x1 : Int32) (S : gS) (o : tR) (hF : fX11_count N x1 S = some o) : gN l yX11_count cX11_count 3 ((some .int)) 6 1 D (xtys cI cB cZ cQ) (xcell g cI cB cZ cQ) xord g Am [.ref (g 0), .int x1] S false o :=
  gN_of P (by decide) (Nat.le_of_ble_eq_true rfl) (fun p e s m args below meth c ls C Tb X hl => bX11_count_0 C O Tb X (lv_sub hl [0, 1] rfl) hF)
-- X11.needGrotto
noncomputable def fX11_needGrotto_b22 (N : Nat) (S : gS) : Option (tR) := some (0, 0, S)
theorem bX11_needGrotto_22 {N : Nat} {S : gS} {H : Heap} {locs : List Loc} {ls : Array Slot} {o : tR} (C : gC p s m args meth c cX11_needGrotto 2 RX11 none D (xtys cI cB cZ cQ) xord g Am) (O : tO l g cI cB cZ cQ Am aK aV) (Tb : ∀ x ∈ c.exceptionTable.toList, False) (X : gX D (xcell g cI cB cZ cQ) xord g S s H locs) (hl : lv_has ls 2 []) (hF : fX11_needGrotto_b22 N S = some o) : W p l e (rmx 6 1) s m args below meth c H locs 0 0 (gEX below args s D (xtys cI cB cZ cQ) (xcell g cI cB cZ cQ) xord g 1 true o) (F0 m 22 ls []) := by
  unfold fX11_needGrotto_b22 at hF
  cases hF
  exact t_vret C X (by decide) (by decide) dX11_needGrotto_22
noncomputable def fX11_needGrotto_b11 (N : Nat) (S : gS) : Option (tR) := some (1, 0, S)
theorem bX11_needGrotto_11 {N : Nat} {S : gS} {H : Heap} {locs : List Loc} {ls : Array Slot} {o : tR} (C : gC p s m args meth c cX11_needGrotto 2 RX11 none D (xtys cI cB cZ cQ) xord g Am) (O : tO l g cI cB cZ cQ Am aK aV) (Tb : ∀ x ∈ c.exceptionTable.toList, False) (X : gX D (xcell g cI cB cZ cQ) xord g S s H locs) (hl : lv_has ls 2 []) (hF : fX11_needGrotto_b11 N S = some o) : W p l e (rmx 6 1) s m args below meth c H locs 0 0 (gEX below args s D (xtys cI cB cZ cQ) (xcell g cI cB cZ cQ) xord g 1 true o) (F0 m 11 ls []) := by
  unfold fX11_needGrotto_b11 at hF
  cases hF
  exact t_newNW (ii := 20) C O Tb X hl.1 rfl dX11_needGrotto_11 dX11_needGrotto_14 dX11_needGrotto_15 dX11_needGrotto_18 dX11_needGrotto_21 (Nat.le_of_ble_eq_true rfl) (Nat.le_of_ble_eq_true rfl) (Nat.le_of_ble_eq_true rfl) (Nat.le_of_ble_eq_true rfl) (by decide) (by decide)
noncomputable def fX11_needGrotto_b0 (N : Nat) (x1 : Int32) (S : gS) : Option (tR) := lt (xtw S) fun T1 => (bnd (fX9_isGrotto N T1 x1 S) fun q1 => (if q1.1 = 0 then fX11_needGrotto_b11 N q1.2 else fX11_needGrotto_b22 N q1.2))
theorem bX11_needGrotto_0 {N : Nat} {x1 : Int32} {S : gS} {H : Heap} {locs : List Loc} {ls : Array Slot} {o : tR} (C : gC p s m args meth c cX11_needGrotto 2 RX11 none D (xtys cI cB cZ cQ) xord g Am) (O : tO l g cI cB cZ cQ Am aK aV) (Tb : ∀ x ∈ c.exceptionTable.toList, False) (X : gX D (xcell g cI cB cZ cQ) xord g S s H locs) (hl : lv_has ls 2 [(0, .ref (g 0)), (1, .int x1)]) (hF : fX11_needGrotto_b0 N x1 S = some o) : W p l e (rmx 6 1) s m args below meth c H locs 0 0 (gEX below args s D (xtys cI cB cZ cQ) (xcell g cI cB cZ cQ) xord g 1 true o) (F0 m 0 ls []) := by
  unfold fX11_needGrotto_b0 at hF
  refine lv_aload_n C.1.1 C.1.2.1 dX11_needGrotto_0 rfl (lv_at hl 0 rfl) ?_
  obtain ⟨T1, eT1, hF⟩ := lt_some hF
  have hk_T1 := xtw_k eT1
  refine xg_X11_57 C O.1.1 X (T := T1) eT1 (k := 0) rfl dX11_needGrotto_1 ?_
  refine lv_iload_n C.1.1 C.1.2.1 dX11_needGrotto_4 rfl (lv_at hl 1 rfl) ?_
  obtain ⟨q1, hq1, hF⟩ := bnd_some hF
  refine x_callVi C X (k := T1) xv_X11_366 hk_T1 rfl rfl (by decide) (kX9_isGrotto O.1.1 C.2.2.2.2.1 N T1 x1 (hk_T1 : xk T1 = 9) S q1 hq1) (Nat.le_of_ble_eq_true rfl) (Nat.le_of_ble_eq_true rfl) (Nat.le_of_ble_eq_true rfl) (Nat.le_of_ble_eq_true rfl) rfl hl.1 rfl (Nat.le_of_ble_eq_true rfl) dX11_needGrotto_5 (fun H locs X => ?_)
  refine lv_if_ne (tgt := 22) C.1.1 C.1.2.1 dX11_needGrotto_8 (by decide) (fun h_z => ?_) (fun h_z => ?_)
  · rw [if_neg h_z] at hF
    exact bX11_needGrotto_22 C O Tb X (lv_sub hl [] rfl) hF
  · rw [if_pos h_z] at hF
    exact bX11_needGrotto_11 C O Tb X (lv_sub hl [] rfl) hF
noncomputable def fX11_needGrotto (N : Nat) (x1 : Int32) (S : gS) : Option (tR) := fX11_needGrotto_b0 N x1 S
theorem kX11_needGrotto {l : Launch} {D : va_G} {g : Nat → Nat} {cI cB cZ cQ : ClassId} {Am : (Nat → Prop) → State → Heap → Prop} {aK aV : Nat → Nat} (O : tO l g cI cB cZ cQ Am aK aV) (P : gAm Am) (N : Nat) (x1 : Int32) (S : gS) (o : tR) (hF : fX11_needGrotto N x1 S = some o) : gN l yX11_needGrotto cX11_needGrotto 2 none 6 1 D (xtys cI cB cZ cQ) (xcell g cI cB cZ cQ) xord g Am [.ref (g 0), .int x1] S true o :=
  gN_of P (by decide) (Nat.le_of_ble_eq_true rfl) (fun p e s m args below meth c ls C Tb X hl => bX11_needGrotto_0 C O Tb X (lv_sub hl [0, 1] rfl) hF)
-- X11.needGuild
noncomputable def fX11_needGuild_b22 (N : Nat) (S : gS) : Option (tR) := some (0, 0, S)
theorem bX11_needGuild_22 {N : Nat} {S : gS} {H : Heap} {locs : List Loc} {ls : Array Slot} {o : tR} (C : gC p s m args meth c cX11_needGuild 2 RX11 none D (xtys cI cB cZ cQ) xord g Am) (O : tO l g cI cB cZ cQ Am aK aV) (Tb : ∀ x ∈ c.exceptionTable.toList, False) (X : gX D (xcell g cI cB cZ cQ) xord g S s H locs) (hl : lv_has ls 2 []) (hF : fX11_needGuild_b22 N S = some o) : W p l e (rmx 6 1) s m args below meth c H locs 0 0 (gEX below args s D (xtys cI cB cZ cQ) (xcell g cI cB cZ cQ) xord g 1 true o) (F0 m 22 ls []) := by
  unfold fX11_needGuild_b22 at hF
  cases hF
  exact t_vret C X (by decide) (by decide) dX11_needGuild_22
noncomputable def fX11_needGuild_b11 (N : Nat) (S : gS) : Option (tR) := some (1, 0, S)
theorem bX11_needGuild_11 {N : Nat} {S : gS} {H : Heap} {locs : List Loc} {ls : Array Slot} {o : tR} (C : gC p s m args meth c cX11_needGuild 2 RX11 none D (xtys cI cB cZ cQ) xord g Am) (O : tO l g cI cB cZ cQ Am aK aV) (Tb : ∀ x ∈ c.exceptionTable.toList, False) (X : gX D (xcell g cI cB cZ cQ) xord g S s H locs) (hl : lv_has ls 2 []) (hF : fX11_needGuild_b11 N S = some o) : W p l e (rmx 6 1) s m args below meth c H locs 0 0 (gEX below args s D (xtys cI cB cZ cQ) (xcell g cI cB cZ cQ) xord g 1 true o) (F0 m 11 ls []) := by
  unfold fX11_needGuild_b11 at hF
  cases hF
  exact t_newNW (ii := 22) C O Tb X hl.1 rfl dX11_needGuild_11 dX11_needGuild_14 dX11_needGuild_15 dX11_needGuild_18 dX11_needGuild_21 (Nat.le_of_ble_eq_true rfl) (Nat.le_of_ble_eq_true rfl) (Nat.le_of_ble_eq_true rfl) (Nat.le_of_ble_eq_true rfl) (by decide) (by decide)
noncomputable def fX11_needGuild_b0 (N : Nat) (x1 : Int32) (S : gS) : Option (tR) := lt (xtw S) fun T1 => (bnd (fX9_isGuild N T1 x1 S) fun q1 => (if q1.1 = 0 then fX11_needGuild_b11 N q1.2 else fX11_needGuild_b22 N q1.2))
theorem bX11_needGuild_0 {N : Nat} {x1 : Int32} {S : gS} {H : Heap} {locs : List Loc} {ls : Array Slot} {o : tR} (C : gC p s m args meth c cX11_needGuild 2 RX11 none D (xtys cI cB cZ cQ) xord g Am) (O : tO l g cI cB cZ cQ Am aK aV) (Tb : ∀ x ∈ c.exceptionTable.toList, False) (X : gX D (xcell g cI cB cZ cQ) xord g S s H locs) (hl : lv_has ls 2 [(0, .ref (g 0)), (1, .int x1)]) (hF : fX11_needGuild_b0 N x1 S = some o) : W p l e (rmx 6 1) s m args below meth c H locs 0 0 (gEX below args s D (xtys cI cB cZ cQ) (xcell g cI cB cZ cQ) xord g 1 true o) (F0 m 0 ls []) := by
  unfold fX11_needGuild_b0 at hF
  refine lv_aload_n C.1.1 C.1.2.1 dX11_needGuild_0 rfl (lv_at hl 0 rfl) ?_
  obtain ⟨T1, eT1, hF⟩ := lt_some hF
  have hk_T1 := xtw_k eT1
  refine xg_X11_57 C O.1.1 X (T := T1) eT1 (k := 0) rfl dX11_needGuild_1 ?_
  refine lv_iload_n C.1.1 C.1.2.1 dX11_needGuild_4 rfl (lv_at hl 1 rfl) ?_
  obtain ⟨q1, hq1, hF⟩ := bnd_some hF
  refine x_callVi C X (k := T1) xv_X11_371 hk_T1 rfl rfl (by decide) (kX9_isGuild O.1.1 C.2.2.2.2.1 N T1 x1 (hk_T1 : xk T1 = 9) S q1 hq1) (Nat.le_of_ble_eq_true rfl) (Nat.le_of_ble_eq_true rfl) (Nat.le_of_ble_eq_true rfl) (Nat.le_of_ble_eq_true rfl) rfl hl.1 rfl (Nat.le_of_ble_eq_true rfl) dX11_needGuild_5 (fun H locs X => ?_)
  refine lv_if_ne (tgt := 22) C.1.1 C.1.2.1 dX11_needGuild_8 (by decide) (fun h_z => ?_) (fun h_z => ?_)
  · rw [if_neg h_z] at hF
    exact bX11_needGuild_22 C O Tb X (lv_sub hl [] rfl) hF
  · rw [if_pos h_z] at hF
    exact bX11_needGuild_11 C O Tb X (lv_sub hl [] rfl) hF
noncomputable def fX11_needGuild (N : Nat) (x1 : Int32) (S : gS) : Option (tR) := fX11_needGuild_b0 N x1 S
theorem kX11_needGuild {l : Launch} {D : va_G} {g : Nat → Nat} {cI cB cZ cQ : ClassId} {Am : (Nat → Prop) → State → Heap → Prop} {aK aV : Nat → Nat} (O : tO l g cI cB cZ cQ Am aK aV) (P : gAm Am) (N : Nat) (x1 : Int32) (S : gS) (o : tR) (hF : fX11_needGuild N x1 S = some o) : gN l yX11_needGuild cX11_needGuild 2 none 6 1 D (xtys cI cB cZ cQ) (xcell g cI cB cZ cQ) xord g Am [.ref (g 0), .int x1] S true o :=
  gN_of P (by decide) (Nat.le_of_ble_eq_true rfl) (fun p e s m args below meth c ls C Tb X hl => bX11_needGuild_0 C O Tb X (lv_sub hl [0, 1] rfl) hF)
-- X11.needWhat
noncomputable def fX11_needWhat_b20 (N : Nat) (S : gS) : Option (tR) := some (0, 0, S)
theorem bX11_needWhat_20 {N : Nat} {S : gS} {H : Heap} {locs : List Loc} {ls : Array Slot} {o : tR} (C : gC p s m args meth c cX11_needWhat 2 RX11 none D (xtys cI cB cZ cQ) xord g Am) (O : tO l g cI cB cZ cQ Am aK aV) (Tb : ∀ x ∈ c.exceptionTable.toList, False) (X : gX D (xcell g cI cB cZ cQ) xord g S s H locs) (hl : lv_has ls 2 []) (hF : fX11_needWhat_b20 N S = some o) : W p l e (rmx 6 1) s m args below meth c H locs 0 0 (gEX below args s D (xtys cI cB cZ cQ) (xcell g cI cB cZ cQ) xord g 1 true o) (F0 m 20 ls []) := by
  unfold fX11_needWhat_b20 at hF
  cases hF
  exact t_vret C X (by decide) (by decide) dX11_needWhat_20
noncomputable def fX11_needWhat_b9 (N : Nat) (S : gS) : Option (tR) := some (1, 0, S)
theorem bX11_needWhat_9 {N : Nat} {S : gS} {H : Heap} {locs : List Loc} {ls : Array Slot} {o : tR} (C : gC p s m args meth c cX11_needWhat 2 RX11 none D (xtys cI cB cZ cQ) xord g Am) (O : tO l g cI cB cZ cQ Am aK aV) (Tb : ∀ x ∈ c.exceptionTable.toList, False) (X : gX D (xcell g cI cB cZ cQ) xord g S s H locs) (hl : lv_has ls 2 []) (hF : fX11_needWhat_b9 N S = some o) : W p l e (rmx 6 1) s m args below meth c H locs 0 0 (gEX below args s D (xtys cI cB cZ cQ) (xcell g cI cB cZ cQ) xord g 1 true o) (F0 m 9 ls []) := by
  unfold fX11_needWhat_b9 at hF
  cases hF
  exact t_newNW (ii := 24) C O Tb X hl.1 rfl dX11_needWhat_9 dX11_needWhat_12 dX11_needWhat_13 dX11_needWhat_16 dX11_needWhat_19 (Nat.le_of_ble_eq_true rfl) (Nat.le_of_ble_eq_true rfl) (Nat.le_of_ble_eq_true rfl) (Nat.le_of_ble_eq_true rfl) (by decide) (by decide)
noncomputable def fX11_needWhat_b0 (N : Nat) (x0 : Int32) (x1 : Int32) (S : gS) : Option (tR) := bnd (fX11_isWithin N x0 0 x1 S) fun q1 => (if q1.1 = 0 then fX11_needWhat_b9 N q1.2 else fX11_needWhat_b20 N q1.2)
theorem bX11_needWhat_0 {N : Nat} {x0 : Int32} {x1 : Int32} {S : gS} {H : Heap} {locs : List Loc} {ls : Array Slot} {o : tR} (C : gC p s m args meth c cX11_needWhat 2 RX11 none D (xtys cI cB cZ cQ) xord g Am) (O : tO l g cI cB cZ cQ Am aK aV) (Tb : ∀ x ∈ c.exceptionTable.toList, False) (X : gX D (xcell g cI cB cZ cQ) xord g S s H locs) (hl : lv_has ls 2 [(0, .int x0), (1, .int x1)]) (hF : fX11_needWhat_b0 N x0 x1 S = some o) : W p l e (rmx 6 1) s m args below meth c H locs 0 0 (gEX below args s D (xtys cI cB cZ cQ) (xcell g cI cB cZ cQ) xord g 1 true o) (F0 m 0 ls []) := by
  unfold fX11_needWhat_b0 at hF
  refine lv_iload_n C.1.1 C.1.2.1 dX11_needWhat_0 rfl (lv_at hl 0 rfl) ?_
  refine lv_iconst (v := 0) C.1.1 C.1.2.1 dX11_needWhat_1 (by decide) ?_
  refine lv_iload_n C.1.1 C.1.2.1 dX11_needWhat_2 rfl (lv_at hl 1 rfl) ?_
  obtain ⟨q1, hq1, hF⟩ := bnd_some hF
  refine g_callSi C X xv_X11_214 (kX11_isWithin O.1.1 C.2.2.2.2.1 N x0 0 x1 S q1 hq1) (Nat.le_of_ble_eq_true rfl) (Nat.le_of_ble_eq_true rfl) (Nat.le_of_ble_eq_true rfl) (Nat.le_of_ble_eq_true rfl) rfl hl.1 rfl (Nat.le_of_ble_eq_true rfl) dX11_needWhat_3 (fun H locs X => ?_)
  refine lv_if_ne (tgt := 20) C.1.1 C.1.2.1 dX11_needWhat_6 (by decide) (fun h_z => ?_) (fun h_z => ?_)
  · rw [if_neg h_z] at hF
    exact bX11_needWhat_20 C O Tb X (lv_sub hl [] rfl) hF
  · rw [if_pos h_z] at hF
    exact bX11_needWhat_9 C O Tb X (lv_sub hl [] rfl) hF
noncomputable def fX11_needWhat (N : Nat) (x0 : Int32) (x1 : Int32) (S : gS) : Option (tR) := fX11_needWhat_b0 N x0 x1 S
theorem kX11_needWhat {l : Launch} {D : va_G} {g : Nat → Nat} {cI cB cZ cQ : ClassId} {Am : (Nat → Prop) → State → Heap → Prop} {aK aV : Nat → Nat} (O : tO l g cI cB cZ cQ Am aK aV) (P : gAm Am) (N : Nat) (x0 : Int32) (x1 : Int32) (S : gS) (o : tR) (hF : fX11_needWhat N x0 x1 S = some o) : gN l yX11_needWhat cX11_needWhat 2 none 6 1 D (xtys cI cB cZ cQ) (xcell g cI cB cZ cQ) xord g Am [.int x0, .int x1] S true o :=
  gN_of P (by decide) (Nat.le_of_ble_eq_true rfl) (fun p e s m args below meth c ls C Tb X hl => bX11_needWhat_0 C O Tb X (lv_sub hl [0, 1] rfl) hF)
-- X11.needWithin
noncomputable def fX11_needWithin_b20 (N : Nat) (S : gS) : Option (tR) := some (0, 0, S)
theorem bX11_needWithin_20 {N : Nat} {S : gS} {H : Heap} {locs : List Loc} {ls : Array Slot} {o : tR} (C : gC p s m args meth c cX11_needWithin 3 RX11 none D (xtys cI cB cZ cQ) xord g Am) (O : tO l g cI cB cZ cQ Am aK aV) (Tb : ∀ x ∈ c.exceptionTable.toList, False) (X : gX D (xcell g cI cB cZ cQ) xord g S s H locs) (hl : lv_has ls 3 []) (hF : fX11_needWithin_b20 N S = some o) : W p l e (rmx 6 1) s m args below meth c H locs 0 0 (gEX below args s D (xtys cI cB cZ cQ) (xcell g cI cB cZ cQ) xord g 1 true o) (F0 m 20 ls []) := by
  unfold fX11_needWithin_b20 at hF
  cases hF
  exact t_vret C X (by decide) (by decide) dX11_needWithin_20
noncomputable def fX11_needWithin_b9 (N : Nat) (S : gS) : Option (tR) := some (2, 0, S)
theorem bX11_needWithin_9 {N : Nat} {S : gS} {H : Heap} {locs : List Loc} {ls : Array Slot} {o : tR} (C : gC p s m args meth c cX11_needWithin 3 RX11 none D (xtys cI cB cZ cQ) xord g Am) (O : tO l g cI cB cZ cQ Am aK aV) (Tb : ∀ x ∈ c.exceptionTable.toList, False) (X : gX D (xcell g cI cB cZ cQ) xord g S s H locs) (hl : lv_has ls 3 []) (hF : fX11_needWithin_b9 N S = some o) : W p l e (rmx 6 1) s m args below meth c H locs 0 0 (gEX below args s D (xtys cI cB cZ cQ) (xcell g cI cB cZ cQ) xord g 1 true o) (F0 m 9 ls []) := by
  unfold fX11_needWithin_b9 at hF
  cases hF
  exact t_newIW (ii := 25) C O Tb X hl.1 rfl dX11_needWithin_9 dX11_needWithin_12 dX11_needWithin_13 dX11_needWithin_16 dX11_needWithin_19 (Nat.le_of_ble_eq_true rfl) (Nat.le_of_ble_eq_true rfl) (Nat.le_of_ble_eq_true rfl) (Nat.le_of_ble_eq_true rfl) (by decide) (by decide)
noncomputable def fX11_needWithin_b0 (N : Nat) (x0 : Int32) (x1 : Int32) (x2 : Int32) (S : gS) : Option (tR) := bnd (fX11_isWithin N x0 x1 x2 S) fun q1 => (if q1.1 = 0 then fX11_needWithin_b9 N q1.2 else fX11_needWithin_b20 N q1.2)
theorem bX11_needWithin_0 {N : Nat} {x0 : Int32} {x1 : Int32} {x2 : Int32} {S : gS} {H : Heap} {locs : List Loc} {ls : Array Slot} {o : tR} (C : gC p s m args meth c cX11_needWithin 3 RX11 none D (xtys cI cB cZ cQ) xord g Am) (O : tO l g cI cB cZ cQ Am aK aV) (Tb : ∀ x ∈ c.exceptionTable.toList, False) (X : gX D (xcell g cI cB cZ cQ) xord g S s H locs) (hl : lv_has ls 3 [(0, .int x0), (1, .int x1), (2, .int x2)]) (hF : fX11_needWithin_b0 N x0 x1 x2 S = some o) : W p l e (rmx 6 1) s m args below meth c H locs 0 0 (gEX below args s D (xtys cI cB cZ cQ) (xcell g cI cB cZ cQ) xord g 1 true o) (F0 m 0 ls []) := by
  unfold fX11_needWithin_b0 at hF
  refine lv_iload_n C.1.1 C.1.2.1 dX11_needWithin_0 rfl (lv_at hl 0 rfl) ?_
  refine lv_iload_n C.1.1 C.1.2.1 dX11_needWithin_1 rfl (lv_at hl 1 rfl) ?_
  refine lv_iload_n C.1.1 C.1.2.1 dX11_needWithin_2 rfl (lv_at hl 2 rfl) ?_
  obtain ⟨q1, hq1, hF⟩ := bnd_some hF
  refine g_callSi C X xv_X11_214 (kX11_isWithin O.1.1 C.2.2.2.2.1 N x0 x1 x2 S q1 hq1) (Nat.le_of_ble_eq_true rfl) (Nat.le_of_ble_eq_true rfl) (Nat.le_of_ble_eq_true rfl) (Nat.le_of_ble_eq_true rfl) rfl hl.1 rfl (Nat.le_of_ble_eq_true rfl) dX11_needWithin_3 (fun H locs X => ?_)
  refine lv_if_ne (tgt := 20) C.1.1 C.1.2.1 dX11_needWithin_6 (by decide) (fun h_z => ?_) (fun h_z => ?_)
  · rw [if_neg h_z] at hF
    exact bX11_needWithin_20 C O Tb X (lv_sub hl [] rfl) hF
  · rw [if_pos h_z] at hF
    exact bX11_needWithin_9 C O Tb X (lv_sub hl [] rfl) hF
noncomputable def fX11_needWithin (N : Nat) (x0 : Int32) (x1 : Int32) (x2 : Int32) (S : gS) : Option (tR) := fX11_needWithin_b0 N x0 x1 x2 S
theorem kX11_needWithin {l : Launch} {D : va_G} {g : Nat → Nat} {cI cB cZ cQ : ClassId} {Am : (Nat → Prop) → State → Heap → Prop} {aK aV : Nat → Nat} (O : tO l g cI cB cZ cQ Am aK aV) (P : gAm Am) (N : Nat) (x0 : Int32) (x1 : Int32) (x2 : Int32) (S : gS) (o : tR) (hF : fX11_needWithin N x0 x1 x2 S = some o) : gN l yX11_needWithin cX11_needWithin 3 none 6 1 D (xtys cI cB cZ cQ) (xcell g cI cB cZ cQ) xord g Am [.int x0, .int x1, .int x2] S true o :=
  gN_of P (by decide) (Nat.le_of_ble_eq_true rfl) (fun p e s m args below meth c ls C Tb X hl => bX11_needWithin_0 C O Tb X (lv_sub hl [0, 1, 2] rfl) hF)
-- X11.needGrottoes
noncomputable def fX11_needGrottoes_b28 (N : Nat) (S : gS) : Option (tR) := some (0, 0, S)
theorem bX11_needGrottoes_28 {N : Nat} {S : gS} {H : Heap} {locs : List Loc} {ls : Array Slot} {o : tR} (C : gC p s m args meth c cX11_needGrottoes 2 RX11 none D (xtys cI cB cZ cQ) xord g Am) (O : tO l g cI cB cZ cQ Am aK aV) (Tb : ∀ x ∈ c.exceptionTable.toList, False) (X : gX D (xcell g cI cB cZ cQ) xord g S s H locs) (hl : lv_has ls 2 []) (hF : fX11_needGrottoes_b28 N S = some o) : W p l e (rmx 6 1) s m args below meth c H locs 0 0 (gEX below args s D (xtys cI cB cZ cQ) (xcell g cI cB cZ cQ) xord g 1 true o) (F0 m 28 ls []) := by
  unfold fX11_needGrottoes_b28 at hF
  cases hF
  exact t_vret C X (by decide) (by decide) dX11_needGrottoes_28
noncomputable def fX11_needGrottoes_b17 (N : Nat) (S : gS) : Option (tR) := some (2, 0, S)
theorem bX11_needGrottoes_17 {N : Nat} {S : gS} {H : Heap} {locs : List Loc} {ls : Array Slot} {o : tR} (C : gC p s m args meth c cX11_needGrottoes 2 RX11 none D (xtys cI cB cZ cQ) xord g Am) (O : tO l g cI cB cZ cQ Am aK aV) (Tb : ∀ x ∈ c.exceptionTable.toList, False) (X : gX D (xcell g cI cB cZ cQ) xord g S s H locs) (hl : lv_has ls 2 []) (hF : fX11_needGrottoes_b17 N S = some o) : W p l e (rmx 6 1) s m args below meth c H locs 0 0 (gEX below args s D (xtys cI cB cZ cQ) (xcell g cI cB cZ cQ) xord g 1 true o) (F0 m 17 ls []) := by
  unfold fX11_needGrottoes_b17 at hF
  cases hF
  exact t_newIW (ii := 26) C O Tb X hl.1 rfl dX11_needGrottoes_17 dX11_needGrottoes_20 dX11_needGrottoes_21 dX11_needGrottoes_24 dX11_needGrottoes_27 (Nat.le_of_ble_eq_true rfl) (Nat.le_of_ble_eq_true rfl) (Nat.le_of_ble_eq_true rfl) (Nat.le_of_ble_eq_true rfl) (by decide) (by decide)
noncomputable def fX11_needGrottoes_b4 (N : Nat) (x1 : Int32) (S : gS) : Option (tR) := lt (xtw S) fun T1 => (if x1 < (((1 : Int32) <<< ((S T1 0) &&& 31) : Int32)) then fX11_needGrottoes_b28 N S else fX11_needGrottoes_b17 N S)
theorem bX11_needGrottoes_4 {N : Nat} {x1 : Int32} {S : gS} {H : Heap} {locs : List Loc} {ls : Array Slot} {o : tR} (C : gC p s m args meth c cX11_needGrottoes 2 RX11 none D (xtys cI cB cZ cQ) xord g Am) (O : tO l g cI cB cZ cQ Am aK aV) (Tb : ∀ x ∈ c.exceptionTable.toList, False) (X : gX D (xcell g cI cB cZ cQ) xord g S s H locs) (hl : lv_has ls 2 [(0, .ref (g 0)), (1, .int x1)]) (hF : fX11_needGrottoes_b4 N x1 S = some o) : W p l e (rmx 6 1) s m args below meth c H locs 0 0 (gEX below args s D (xtys cI cB cZ cQ) (xcell g cI cB cZ cQ) xord g 1 true o) (F0 m 4 ls []) := by
  unfold fX11_needGrottoes_b4 at hF
  refine lv_iload_n C.1.1 C.1.2.1 dX11_needGrottoes_4 rfl (lv_at hl 1 rfl) ?_
  refine lv_iconst (v := 1) C.1.1 C.1.2.1 dX11_needGrottoes_5 (by decide) ?_
  refine lv_aload_n C.1.1 C.1.2.1 dX11_needGrottoes_6 rfl (lv_at hl 0 rfl) ?_
  obtain ⟨T1, eT1, hF⟩ := lt_some hF
  have hk_T1 := xtw_k eT1
  refine xg_X11_57 C O.1.1 X (T := T1) eT1 (k := 0) rfl dX11_needGrottoes_7 ?_
  refine xg_X11_108 C O.1.1 X (k := T1) hk_T1 dX11_needGrottoes_10 ?_
  refine lv_ishl C.1.1 C.1.2.1 dX11_needGrottoes_13 ?_
  refine lv_icmp_lt (tgt := 28) C.1.1 C.1.2.1 dX11_needGrottoes_14 (by decide) (fun h_z => ?_) (fun h_z => ?_)
  · rw [if_pos h_z] at hF
    exact bX11_needGrottoes_28 C O Tb X (lv_sub hl [] rfl) hF
  · rw [if_neg h_z] at hF
    exact bX11_needGrottoes_17 C O Tb X (lv_sub hl [] rfl) hF
noncomputable def fX11_needGrottoes_b0 (N : Nat) (x1 : Int32) (S : gS) : Option (tR) := if x1 < 0 then fX11_needGrottoes_b17 N S else fX11_needGrottoes_b4 N x1 S
theorem bX11_needGrottoes_0 {N : Nat} {x1 : Int32} {S : gS} {H : Heap} {locs : List Loc} {ls : Array Slot} {o : tR} (C : gC p s m args meth c cX11_needGrottoes 2 RX11 none D (xtys cI cB cZ cQ) xord g Am) (O : tO l g cI cB cZ cQ Am aK aV) (Tb : ∀ x ∈ c.exceptionTable.toList, False) (X : gX D (xcell g cI cB cZ cQ) xord g S s H locs) (hl : lv_has ls 2 [(0, .ref (g 0)), (1, .int x1)]) (hF : fX11_needGrottoes_b0 N x1 S = some o) : W p l e (rmx 6 1) s m args below meth c H locs 0 0 (gEX below args s D (xtys cI cB cZ cQ) (xcell g cI cB cZ cQ) xord g 1 true o) (F0 m 0 ls []) := by
  unfold fX11_needGrottoes_b0 at hF
  refine lv_iload_n C.1.1 C.1.2.1 dX11_needGrottoes_0 rfl (lv_at hl 1 rfl) ?_
  refine lv_if_lt (tgt := 17) C.1.1 C.1.2.1 dX11_needGrottoes_1 (by decide) (fun h_z => ?_) (fun h_z => ?_)
  · rw [if_pos h_z] at hF
    exact bX11_needGrottoes_17 C O Tb X (lv_sub hl [] rfl) hF
  · rw [if_neg h_z] at hF
    exact bX11_needGrottoes_4 C O Tb X (lv_sub hl [0, 1] rfl) hF
noncomputable def fX11_needGrottoes (N : Nat) (x1 : Int32) (S : gS) : Option (tR) := fX11_needGrottoes_b0 N x1 S
theorem kX11_needGrottoes {l : Launch} {D : va_G} {g : Nat → Nat} {cI cB cZ cQ : ClassId} {Am : (Nat → Prop) → State → Heap → Prop} {aK aV : Nat → Nat} (O : tO l g cI cB cZ cQ Am aK aV) (P : gAm Am) (N : Nat) (x1 : Int32) (S : gS) (o : tR) (hF : fX11_needGrottoes N x1 S = some o) : gN l yX11_needGrottoes cX11_needGrottoes 2 none 6 1 D (xtys cI cB cZ cQ) (xcell g cI cB cZ cQ) xord g Am [.ref (g 0), .int x1] S true o :=
  gN_of P (by decide) (Nat.le_of_ble_eq_true rfl) (fun p e s m args below meth c ls C Tb X hl => bX11_needGrottoes_0 C O Tb X (lv_sub hl [0, 1] rfl) hF)
-- X11.grotto
noncomputable def fX11_grotto_b138 (N : Nat) (S : gS) : Option (tR) := some (1, 0, S)
theorem bX11_grotto_138 {N : Nat} {S : gS} {H : Heap} {locs : List Loc} {ls : Array Slot} {o : tR} (C : gC p s m args meth c cX11_grotto 3 RX11 ((some .int)) D (xtys cI cB cZ cQ) xord g Am) (O : tO l g cI cB cZ cQ Am aK aV) (Tb : ∀ x ∈ c.exceptionTable.toList, False) (X : gX D (xcell g cI cB cZ cQ) xord g S s H locs) (hl : lv_has ls 3 []) (hF : fX11_grotto_b138 N S = some o) : W p l e (rmx 7 2) s m args below meth c H locs 1 6 (gEX below args s D (xtys cI cB cZ cQ) (xcell g cI cB cZ cQ) xord g 2 false o) (F0 m 138 ls []) := by
  unfold fX11_grotto_b138 at hF
  cases hF
  exact t_newN (ii := 21) C O Tb X hl.1 rfl dX11_grotto_138 dX11_grotto_141 dX11_grotto_142 dX11_grotto_144 dX11_grotto_147 (Nat.le_of_ble_eq_true rfl) (Nat.le_of_ble_eq_true rfl) (Nat.le_of_ble_eq_true rfl) (Nat.le_of_ble_eq_true rfl) (by decide) (by decide)
noncomputable def fX11_grotto_b132 (N : Nat) (x1 : Int32) (S : gS) : Option (tR) := bnd (fX11_nextDrip N x1 S) fun q1 => (some (0, q1.1, q1.2))
theorem bX11_grotto_132 {N : Nat} {x1 : Int32} {S : gS} {H : Heap} {locs : List Loc} {ls : Array Slot} {o : tR} (C : gC p s m args meth c cX11_grotto 3 RX11 ((some .int)) D (xtys cI cB cZ cQ) xord g Am) (O : tO l g cI cB cZ cQ Am aK aV) (Tb : ∀ x ∈ c.exceptionTable.toList, False) (X : gX D (xcell g cI cB cZ cQ) xord g S s H locs) (hl : lv_has ls 3 [(0, .ref (g 0)), (1, .int x1)]) (hF : fX11_grotto_b132 N x1 S = some o) : W p l e (rmx 7 2) s m args below meth c H locs 1 6 (gEX below args s D (xtys cI cB cZ cQ) (xcell g cI cB cZ cQ) xord g 2 false o) (F0 m 132 ls []) := by
  unfold fX11_grotto_b132 at hF
  refine lv_aload_n C.1.1 C.1.2.1 dX11_grotto_132 rfl (lv_at hl 0 rfl) ?_
  refine lv_iload_n C.1.1 C.1.2.1 dX11_grotto_133 rfl (lv_at hl 1 rfl) ?_
  obtain ⟨q1, hq1, hF⟩ := bnd_some hF
  refine x_callVi C X (k := 0) xv_X11_186 (rfl : xk 0 = 11) rfl rfl (by decide) (kX11_nextDrip O.1.1 C.2.2.2.2.1 N x1 S q1 hq1) (Nat.le_of_ble_eq_true rfl) (Nat.le_of_ble_eq_true rfl) (Nat.le_of_ble_eq_true rfl) (Nat.le_of_ble_eq_true rfl) rfl hl.1 rfl (Nat.le_of_ble_eq_true rfl) dX11_grotto_134 (fun H locs X => ?_)
  cases hF
  exact t_iret C X (by decide) (by decide) dX11_grotto_137
noncomputable def fX11_grotto_b116 (N : Nat) (x1 : Int32) (S : gS) : Option (tR) := lt (xtw S) fun T1 => (bnd (fX7_holderOf N 21 T1 x1 S) fun q1 => (some (0, q1.1, q1.2)))
theorem bX11_grotto_116 {N : Nat} {x1 : Int32} {S : gS} {H : Heap} {locs : List Loc} {ls : Array Slot} {o : tR} (C : gC p s m args meth c cX11_grotto 3 RX11 ((some .int)) D (xtys cI cB cZ cQ) xord g Am) (O : tO l g cI cB cZ cQ Am aK aV) (Tb : ∀ x ∈ c.exceptionTable.toList, False) (X : gX D (xcell g cI cB cZ cQ) xord g S s H locs) (hl : lv_has ls 3 [(0, .ref (g 0)), (1, .int x1)]) (hF : fX11_grotto_b116 N x1 S = some o) : W p l e (rmx 7 2) s m args below meth c H locs 1 6 (gEX below args s D (xtys cI cB cZ cQ) (xcell g cI cB cZ cQ) xord g 2 false o) (F0 m 116 ls []) := by
  unfold fX11_grotto_b116 at hF
  refine lv_aload_n C.1.1 C.1.2.1 dX11_grotto_116 rfl (lv_at hl 0 rfl) ?_
  refine xg_X11_19 C O.1.1 X (k := 0) rfl (j := 20) rfl dX11_grotto_117 ?_
  refine xg_X11_105 C O.1.1 X (k := 20) rfl (j := 21) rfl dX11_grotto_120 ?_
  refine lv_aload_n C.1.1 C.1.2.1 dX11_grotto_123 rfl (lv_at hl 0 rfl) ?_
  obtain ⟨T1, eT1, hF⟩ := lt_some hF
  have hk_T1 := xtw_k eT1
  refine xg_X11_57 C O.1.1 X (T := T1) eT1 (k := 0) rfl dX11_grotto_124 ?_
  refine lv_iload_n C.1.1 C.1.2.1 dX11_grotto_127 rfl (lv_at hl 1 rfl) ?_
  obtain ⟨q1, hq1, hF⟩ := bnd_some hF
  refine x_callVi C X (k := 21) xv_X11_182 (rfl : xk 21 = 7) rfl rfl (by decide) (kX7_holderOf O.1.1 C.2.2.2.2.1 N 21 T1 x1 (rfl : xk 21 = 7) (hk_T1 : xk T1 = 9) S q1 hq1) (Nat.le_of_ble_eq_true rfl) (Nat.le_of_ble_eq_true rfl) (Nat.le_of_ble_eq_true rfl) (Nat.le_of_ble_eq_true rfl) rfl hl.1 rfl (Nat.le_of_ble_eq_true rfl) dX11_grotto_128 (fun H locs X => ?_)
  cases hF
  exact t_iret C X (by decide) (by decide) dX11_grotto_131
noncomputable def fX11_grotto_b115 (N : Nat) (t0 : Int32) (S : gS) : Option (tR) := some (0, t0, S)
theorem bX11_grotto_115 {N : Nat} {t0 : Int32} {S : gS} {H : Heap} {locs : List Loc} {ls : Array Slot} {o : tR} (C : gC p s m args meth c cX11_grotto 3 RX11 ((some .int)) D (xtys cI cB cZ cQ) xord g Am) (O : tO l g cI cB cZ cQ Am aK aV) (Tb : ∀ x ∈ c.exceptionTable.toList, False) (X : gX D (xcell g cI cB cZ cQ) xord g S s H locs) (hl : lv_has ls 3 []) (hF : fX11_grotto_b115 N t0 S = some o) : W p l e (rmx 7 2) s m args below meth c H locs 1 6 (gEX below args s D (xtys cI cB cZ cQ) (xcell g cI cB cZ cQ) xord g 2 false o) (F0 m 115 ls [.int t0]) := by
  unfold fX11_grotto_b115 at hF
  cases hF
  exact t_iret C X (by decide) (by decide) dX11_grotto_115
noncomputable def fX11_grotto_b114 (N : Nat) (S : gS) : Option (tR) := fX11_grotto_b115 N 0 S
theorem bX11_grotto_114 {N : Nat} {S : gS} {H : Heap} {locs : List Loc} {ls : Array Slot} {o : tR} (C : gC p s m args meth c cX11_grotto 3 RX11 ((some .int)) D (xtys cI cB cZ cQ) xord g Am) (O : tO l g cI cB cZ cQ Am aK aV) (Tb : ∀ x ∈ c.exceptionTable.toList, False) (X : gX D (xcell g cI cB cZ cQ) xord g S s H locs) (hl : lv_has ls 3 []) (hF : fX11_grotto_b114 N S = some o) : W p l e (rmx 7 2) s m args below meth c H locs 1 6 (gEX below args s D (xtys cI cB cZ cQ) (xcell g cI cB cZ cQ) xord g 2 false o) (F0 m 114 ls []) := by
  unfold fX11_grotto_b114 at hF
  refine lv_iconst (v := 0) C.1.1 C.1.2.1 dX11_grotto_114 (by decide) ?_
  exact bX11_grotto_115 C O Tb X (lv_sub hl [] rfl) hF
noncomputable def fX11_grotto_b110 (N : Nat) (S : gS) : Option (tR) := fX11_grotto_b115 N 1 S
theorem bX11_grotto_110 {N : Nat} {S : gS} {H : Heap} {locs : List Loc} {ls : Array Slot} {o : tR} (C : gC p s m args meth c cX11_grotto 3 RX11 ((some .int)) D (xtys cI cB cZ cQ) xord g Am) (O : tO l g cI cB cZ cQ Am aK aV) (Tb : ∀ x ∈ c.exceptionTable.toList, False) (X : gX D (xcell g cI cB cZ cQ) xord g S s H locs) (hl : lv_has ls 3 []) (hF : fX11_grotto_b110 N S = some o) : W p l e (rmx 7 2) s m args below meth c H locs 1 6 (gEX below args s D (xtys cI cB cZ cQ) (xcell g cI cB cZ cQ) xord g 2 false o) (F0 m 110 ls []) := by
  unfold fX11_grotto_b110 at hF
  refine lv_iconst (v := 1) C.1.1 C.1.2.1 dX11_grotto_110 (by decide) ?_
  refine lv_goto (tgt := 115) C.1.1 C.1.2.1 dX11_grotto_111 (by decide) ?_
  exact bX11_grotto_115 C O Tb X (lv_sub hl [] rfl) hF
noncomputable def fX11_grotto_b96 (N : Nat) (x1 : Int32) (S : gS) : Option (tR) := bnd (fX7_isDrained N 21 x1 S) fun q1 => (if q1.1 = 0 then fX11_grotto_b114 N q1.2 else fX11_grotto_b110 N q1.2)
theorem bX11_grotto_96 {N : Nat} {x1 : Int32} {S : gS} {H : Heap} {locs : List Loc} {ls : Array Slot} {o : tR} (C : gC p s m args meth c cX11_grotto 3 RX11 ((some .int)) D (xtys cI cB cZ cQ) xord g Am) (O : tO l g cI cB cZ cQ Am aK aV) (Tb : ∀ x ∈ c.exceptionTable.toList, False) (X : gX D (xcell g cI cB cZ cQ) xord g S s H locs) (hl : lv_has ls 3 [(0, .ref (g 0)), (1, .int x1)]) (hF : fX11_grotto_b96 N x1 S = some o) : W p l e (rmx 7 2) s m args below meth c H locs 1 6 (gEX below args s D (xtys cI cB cZ cQ) (xcell g cI cB cZ cQ) xord g 2 false o) (F0 m 96 ls []) := by
  unfold fX11_grotto_b96 at hF
  refine lv_aload_n C.1.1 C.1.2.1 dX11_grotto_96 rfl (lv_at hl 0 rfl) ?_
  refine xg_X11_19 C O.1.1 X (k := 0) rfl (j := 20) rfl dX11_grotto_97 ?_
  refine xg_X11_105 C O.1.1 X (k := 20) rfl (j := 21) rfl dX11_grotto_100 ?_
  refine lv_iload_n C.1.1 C.1.2.1 dX11_grotto_103 rfl (lv_at hl 1 rfl) ?_
  obtain ⟨q1, hq1, hF⟩ := bnd_some hF
  refine x_callVi C X (k := 21) xv_X11_178 (rfl : xk 21 = 7) rfl rfl (by decide) (kX7_isDrained O.1.1 C.2.2.2.2.1 N 21 x1 (rfl : xk 21 = 7) S q1 hq1) (Nat.le_of_ble_eq_true rfl) (Nat.le_of_ble_eq_true rfl) (Nat.le_of_ble_eq_true rfl) (Nat.le_of_ble_eq_true rfl) rfl hl.1 rfl (Nat.le_of_ble_eq_true rfl) dX11_grotto_104 (fun H locs X => ?_)
  refine lv_if_eq (tgt := 114) C.1.1 C.1.2.1 dX11_grotto_107 (by decide) (fun h_z => ?_) (fun h_z => ?_)
  · rw [if_pos h_z] at hF
    exact bX11_grotto_114 C O Tb X (lv_sub hl [] rfl) hF
  · rw [if_neg h_z] at hF
    exact bX11_grotto_110 C O Tb X (lv_sub hl [] rfl) hF
noncomputable def fX11_grotto_b95 (N : Nat) (t0 : Int32) (S : gS) : Option (tR) := some (0, t0, S)
theorem bX11_grotto_95 {N : Nat} {t0 : Int32} {S : gS} {H : Heap} {locs : List Loc} {ls : Array Slot} {o : tR} (C : gC p s m args meth c cX11_grotto 3 RX11 ((some .int)) D (xtys cI cB cZ cQ) xord g Am) (O : tO l g cI cB cZ cQ Am aK aV) (Tb : ∀ x ∈ c.exceptionTable.toList, False) (X : gX D (xcell g cI cB cZ cQ) xord g S s H locs) (hl : lv_has ls 3 []) (hF : fX11_grotto_b95 N t0 S = some o) : W p l e (rmx 7 2) s m args below meth c H locs 1 6 (gEX below args s D (xtys cI cB cZ cQ) (xcell g cI cB cZ cQ) xord g 2 false o) (F0 m 95 ls [.int t0]) := by
  unfold fX11_grotto_b95 at hF
  cases hF
  exact t_iret C X (by decide) (by decide) dX11_grotto_95
noncomputable def fX11_grotto_b94 (N : Nat) (S : gS) : Option (tR) := fX11_grotto_b95 N 0 S
theorem bX11_grotto_94 {N : Nat} {S : gS} {H : Heap} {locs : List Loc} {ls : Array Slot} {o : tR} (C : gC p s m args meth c cX11_grotto 3 RX11 ((some .int)) D (xtys cI cB cZ cQ) xord g Am) (O : tO l g cI cB cZ cQ Am aK aV) (Tb : ∀ x ∈ c.exceptionTable.toList, False) (X : gX D (xcell g cI cB cZ cQ) xord g S s H locs) (hl : lv_has ls 3 []) (hF : fX11_grotto_b94 N S = some o) : W p l e (rmx 7 2) s m args below meth c H locs 1 6 (gEX below args s D (xtys cI cB cZ cQ) (xcell g cI cB cZ cQ) xord g 2 false o) (F0 m 94 ls []) := by
  unfold fX11_grotto_b94 at hF
  refine lv_iconst (v := 0) C.1.1 C.1.2.1 dX11_grotto_94 (by decide) ?_
  exact bX11_grotto_95 C O Tb X (lv_sub hl [] rfl) hF
noncomputable def fX11_grotto_b90 (N : Nat) (S : gS) : Option (tR) := fX11_grotto_b95 N 1 S
theorem bX11_grotto_90 {N : Nat} {S : gS} {H : Heap} {locs : List Loc} {ls : Array Slot} {o : tR} (C : gC p s m args meth c cX11_grotto 3 RX11 ((some .int)) D (xtys cI cB cZ cQ) xord g Am) (O : tO l g cI cB cZ cQ Am aK aV) (Tb : ∀ x ∈ c.exceptionTable.toList, False) (X : gX D (xcell g cI cB cZ cQ) xord g S s H locs) (hl : lv_has ls 3 []) (hF : fX11_grotto_b90 N S = some o) : W p l e (rmx 7 2) s m args below meth c H locs 1 6 (gEX below args s D (xtys cI cB cZ cQ) (xcell g cI cB cZ cQ) xord g 2 false o) (F0 m 90 ls []) := by
  unfold fX11_grotto_b90 at hF
  refine lv_iconst (v := 1) C.1.1 C.1.2.1 dX11_grotto_90 (by decide) ?_
  refine lv_goto (tgt := 95) C.1.1 C.1.2.1 dX11_grotto_91 (by decide) ?_
  exact bX11_grotto_95 C O Tb X (lv_sub hl [] rfl) hF
noncomputable def fX11_grotto_b78 (N : Nat) (x1 : Int32) (S : gS) : Option (tR) := lt (xtw S) fun T1 => (chk (inb x1 8) (if (S (T1 + 4) (Int32.toNatClampNeg x1)) = 0 then fX11_grotto_b94 N S else fX11_grotto_b90 N S))
theorem bX11_grotto_78 {N : Nat} {x1 : Int32} {S : gS} {H : Heap} {locs : List Loc} {ls : Array Slot} {o : tR} (C : gC p s m args meth c cX11_grotto 3 RX11 ((some .int)) D (xtys cI cB cZ cQ) xord g Am) (O : tO l g cI cB cZ cQ Am aK aV) (Tb : ∀ x ∈ c.exceptionTable.toList, False) (X : gX D (xcell g cI cB cZ cQ) xord g S s H locs) (hl : lv_has ls 3 [(0, .ref (g 0)), (1, .int x1)]) (hF : fX11_grotto_b78 N x1 S = some o) : W p l e (rmx 7 2) s m args below meth c H locs 1 6 (gEX below args s D (xtys cI cB cZ cQ) (xcell g cI cB cZ cQ) xord g 2 false o) (F0 m 78 ls []) := by
  unfold fX11_grotto_b78 at hF
  refine lv_aload_n C.1.1 C.1.2.1 dX11_grotto_78 rfl (lv_at hl 0 rfl) ?_
  obtain ⟨T1, eT1, hF⟩ := lt_some hF
  have hk_T1 := xtw_k eT1
  refine xg_X11_57 C O.1.1 X (T := T1) eT1 (k := 0) rfl dX11_grotto_79 ?_
  refine xg_X11_174 C O.1.1 X (k := T1) hk_T1 (j := T1 + 4) rfl dX11_grotto_82 ?_
  refine lv_iload_n C.1.1 C.1.2.1 dX11_grotto_85 rfl (lv_at hl 1 rfl) ?_
  obtain ⟨h_1, hF⟩ := chk_some hF
  refine x_rZ C X (k := T1 + 4) (xs_9_4 hk_T1).1 (n := 8) (xs_9_4 hk_T1).2  (inb_vp h_1) rfl dX11_grotto_86 ?_
  refine lv_if_eq (tgt := 94) C.1.1 C.1.2.1 dX11_grotto_87 (by decide) (fun h_z => ?_) (fun h_z => ?_)
  · rw [if_pos h_z] at hF
    exact bX11_grotto_94 C O Tb X (lv_sub hl [] rfl) hF
  · rw [if_neg h_z] at hF
    exact bX11_grotto_90 C O Tb X (lv_sub hl [] rfl) hF
noncomputable def fX11_grotto_b68 (N : Nat) (x1 : Int32) (S : gS) : Option (tR) := lt (xtw S) fun T1 => (chk (inb x1 8) (some (0, S (T1 + 3) (Int32.toNatClampNeg x1), S)))
theorem bX11_grotto_68 {N : Nat} {x1 : Int32} {S : gS} {H : Heap} {locs : List Loc} {ls : Array Slot} {o : tR} (C : gC p s m args meth c cX11_grotto 3 RX11 ((some .int)) D (xtys cI cB cZ cQ) xord g Am) (O : tO l g cI cB cZ cQ Am aK aV) (Tb : ∀ x ∈ c.exceptionTable.toList, False) (X : gX D (xcell g cI cB cZ cQ) xord g S s H locs) (hl : lv_has ls 3 [(0, .ref (g 0)), (1, .int x1)]) (hF : fX11_grotto_b68 N x1 S = some o) : W p l e (rmx 7 2) s m args below meth c H locs 1 6 (gEX below args s D (xtys cI cB cZ cQ) (xcell g cI cB cZ cQ) xord g 2 false o) (F0 m 68 ls []) := by
  unfold fX11_grotto_b68 at hF
  refine lv_aload_n C.1.1 C.1.2.1 dX11_grotto_68 rfl (lv_at hl 0 rfl) ?_
  obtain ⟨T1, eT1, hF⟩ := lt_some hF
  have hk_T1 := xtw_k eT1
  refine xg_X11_57 C O.1.1 X (T := T1) eT1 (k := 0) rfl dX11_grotto_69 ?_
  refine xg_X11_171 C O.1.1 X (k := T1) hk_T1 (j := T1 + 3) rfl dX11_grotto_72 ?_
  refine lv_iload_n C.1.1 C.1.2.1 dX11_grotto_75 rfl (lv_at hl 1 rfl) ?_
  obtain ⟨h_1, hF⟩ := chk_some hF
  refine x_rI C X (k := T1 + 3) (xs_9_3 hk_T1).1 (n := 8) (xs_9_3 hk_T1).2  (inb_vp h_1) rfl dX11_grotto_76 ?_
  cases hF
  exact t_iret C X (by decide) (by decide) dX11_grotto_77
noncomputable def fX11_grotto_b58 (N : Nat) (x1 : Int32) (S : gS) : Option (tR) := lt (xtw S) fun T1 => (chk (inb x1 8) (some (0, S (T1 + 2) (Int32.toNatClampNeg x1), S)))
theorem bX11_grotto_58 {N : Nat} {x1 : Int32} {S : gS} {H : Heap} {locs : List Loc} {ls : Array Slot} {o : tR} (C : gC p s m args meth c cX11_grotto 3 RX11 ((some .int)) D (xtys cI cB cZ cQ) xord g Am) (O : tO l g cI cB cZ cQ Am aK aV) (Tb : ∀ x ∈ c.exceptionTable.toList, False) (X : gX D (xcell g cI cB cZ cQ) xord g S s H locs) (hl : lv_has ls 3 [(0, .ref (g 0)), (1, .int x1)]) (hF : fX11_grotto_b58 N x1 S = some o) : W p l e (rmx 7 2) s m args below meth c H locs 1 6 (gEX below args s D (xtys cI cB cZ cQ) (xcell g cI cB cZ cQ) xord g 2 false o) (F0 m 58 ls []) := by
  unfold fX11_grotto_b58 at hF
  refine lv_aload_n C.1.1 C.1.2.1 dX11_grotto_58 rfl (lv_at hl 0 rfl) ?_
  obtain ⟨T1, eT1, hF⟩ := lt_some hF
  have hk_T1 := xtw_k eT1
  refine xg_X11_57 C O.1.1 X (T := T1) eT1 (k := 0) rfl dX11_grotto_59 ?_
  refine xg_X11_168 C O.1.1 X (k := T1) hk_T1 (j := T1 + 2) rfl dX11_grotto_62 ?_
  refine lv_iload_n C.1.1 C.1.2.1 dX11_grotto_65 rfl (lv_at hl 1 rfl) ?_
  obtain ⟨h_1, hF⟩ := chk_some hF
  refine x_rI C X (k := T1 + 2) (xs_9_2 hk_T1).1 (n := 8) (xs_9_2 hk_T1).2  (inb_vp h_1) rfl dX11_grotto_66 ?_
  cases hF
  exact t_iret C X (by decide) (by decide) dX11_grotto_67
noncomputable def fX11_grotto_b48 (N : Nat) (x1 : Int32) (S : gS) : Option (tR) := lt (xtw S) fun T1 => (chk (inb x1 8) (some (0, S (T1 + 1) (Int32.toNatClampNeg x1), S)))
theorem bX11_grotto_48 {N : Nat} {x1 : Int32} {S : gS} {H : Heap} {locs : List Loc} {ls : Array Slot} {o : tR} (C : gC p s m args meth c cX11_grotto 3 RX11 ((some .int)) D (xtys cI cB cZ cQ) xord g Am) (O : tO l g cI cB cZ cQ Am aK aV) (Tb : ∀ x ∈ c.exceptionTable.toList, False) (X : gX D (xcell g cI cB cZ cQ) xord g S s H locs) (hl : lv_has ls 3 [(0, .ref (g 0)), (1, .int x1)]) (hF : fX11_grotto_b48 N x1 S = some o) : W p l e (rmx 7 2) s m args below meth c H locs 1 6 (gEX below args s D (xtys cI cB cZ cQ) (xcell g cI cB cZ cQ) xord g 2 false o) (F0 m 48 ls []) := by
  unfold fX11_grotto_b48 at hF
  refine lv_aload_n C.1.1 C.1.2.1 dX11_grotto_48 rfl (lv_at hl 0 rfl) ?_
  obtain ⟨T1, eT1, hF⟩ := lt_some hF
  have hk_T1 := xtw_k eT1
  refine xg_X11_57 C O.1.1 X (T := T1) eT1 (k := 0) rfl dX11_grotto_49 ?_
  refine xg_X11_165 C O.1.1 X (k := T1) hk_T1 (j := T1 + 1) rfl dX11_grotto_52 ?_
  refine lv_iload_n C.1.1 C.1.2.1 dX11_grotto_55 rfl (lv_at hl 1 rfl) ?_
  obtain ⟨h_1, hF⟩ := chk_some hF
  refine x_rI C X (k := T1 + 1) (xs_9_1 hk_T1).1 (n := 8) (xs_9_1 hk_T1).2  (inb_vp h_1) rfl dX11_grotto_56 ?_
  cases hF
  exact t_iret C X (by decide) (by decide) dX11_grotto_57
noncomputable def fX11_grotto_b0 (N : Nat) (x1 : Int32) (x2 : Int32) (S : gS) : Option (tR) := bnx (fX11_needGrotto N x1 S) fun q1 => (if x2 = 0 then fX11_grotto_b48 N x1 q1.2.2 else if x2 = 1 then fX11_grotto_b58 N x1 q1.2.2 else if x2 = 2 then fX11_grotto_b68 N x1 q1.2.2 else if x2 = 3 then fX11_grotto_b78 N x1 q1.2.2 else if x2 = 4 then fX11_grotto_b96 N x1 q1.2.2 else if x2 = 5 then fX11_grotto_b116 N x1 q1.2.2 else if x2 = 6 then fX11_grotto_b132 N x1 q1.2.2 else fX11_grotto_b138 N q1.2.2)
theorem bX11_grotto_0 {N : Nat} {x1 : Int32} {x2 : Int32} {S : gS} {H : Heap} {locs : List Loc} {ls : Array Slot} {o : tR} (C : gC p s m args meth c cX11_grotto 3 RX11 ((some .int)) D (xtys cI cB cZ cQ) xord g Am) (O : tO l g cI cB cZ cQ Am aK aV) (Tb : ∀ x ∈ c.exceptionTable.toList, False) (X : gX D (xcell g cI cB cZ cQ) xord g S s H locs) (hl : lv_has ls 3 [(0, .ref (g 0)), (1, .int x1), (2, .int x2)]) (hF : fX11_grotto_b0 N x1 x2 S = some o) : W p l e (rmx 7 2) s m args below meth c H locs 0 0 (gEX below args s D (xtys cI cB cZ cQ) (xcell g cI cB cZ cQ) xord g 2 false o) (F0 m 0 ls []) := by
  unfold fX11_grotto_b0 at hF
  refine lv_aload_n C.1.1 C.1.2.1 dX11_grotto_0 rfl (lv_at hl 0 rfl) ?_
  refine lv_iload_n C.1.1 C.1.2.1 dX11_grotto_1 rfl (lv_at hl 1 rfl) ?_
  rcases (bnx_some hF).symm with ⟨q1, hq1, zq1, eo⟩ | ⟨q1, hq1, zq1, hF⟩
  · subst eo
    exact t_thr (x_preT C X xv_X11_162 rfl (kX11_needGrotto O C.2.2.2.2.1 N x1 S q1 hq1) (Nat.le_of_ble_eq_true rfl) (Nat.le_of_ble_eq_true rfl) (Nat.le_of_ble_eq_true rfl) (Nat.le_of_ble_eq_true rfl) rfl hl.1 rfl (Nat.le_of_ble_eq_true rfl) dX11_grotto_2) zq1 C Tb X (by decide) (by decide)
  refine t_okv (x_preT C X xv_X11_162 rfl (kX11_needGrotto O C.2.2.2.2.1 N x1 S q1 hq1) (Nat.le_of_ble_eq_true rfl) (Nat.le_of_ble_eq_true rfl) (Nat.le_of_ble_eq_true rfl) (Nat.le_of_ble_eq_true rfl) rfl hl.1 rfl (Nat.le_of_ble_eq_true rfl) dX11_grotto_2) zq1 X (fun H locs X => ?_)
  refine W.widen (k := 1) (n := 6) (by decide) (by decide) ?_
  refine lv_iload_n C.1.1 C.1.2.1 dX11_grotto_5 rfl (lv_at hl 2 rfl) ?_
  by_cases hz_0 : x2 = 0
  · rw [if_pos hz_0] at hF
    refine lv_tableIn (off := 42) (tgt := 48) C.1.1 C.1.2.1 dX11_grotto_6 (by rw [hz_0]; decide) (by rw [hz_0]; decide) (by rw [hz_0]; decide) (by decide) ?_
    exact bX11_grotto_48 C O Tb X (lv_sub hl [0, 1] rfl) hF
  rw [if_neg hz_0] at hF
  by_cases hz_1 : x2 = 1
  · rw [if_pos hz_1] at hF
    refine lv_tableIn (off := 52) (tgt := 58) C.1.1 C.1.2.1 dX11_grotto_6 (by rw [hz_1]; decide) (by rw [hz_1]; decide) (by rw [hz_1]; decide) (by decide) ?_
    exact bX11_grotto_58 C O Tb X (lv_sub hl [0, 1] rfl) hF
  rw [if_neg hz_1] at hF
  by_cases hz_2 : x2 = 2
  · rw [if_pos hz_2] at hF
    refine lv_tableIn (off := 62) (tgt := 68) C.1.1 C.1.2.1 dX11_grotto_6 (by rw [hz_2]; decide) (by rw [hz_2]; decide) (by rw [hz_2]; decide) (by decide) ?_
    exact bX11_grotto_68 C O Tb X (lv_sub hl [0, 1] rfl) hF
  rw [if_neg hz_2] at hF
  by_cases hz_3 : x2 = 3
  · rw [if_pos hz_3] at hF
    refine lv_tableIn (off := 72) (tgt := 78) C.1.1 C.1.2.1 dX11_grotto_6 (by rw [hz_3]; decide) (by rw [hz_3]; decide) (by rw [hz_3]; decide) (by decide) ?_
    exact bX11_grotto_78 C O Tb X (lv_sub hl [0, 1] rfl) hF
  rw [if_neg hz_3] at hF
  by_cases hz_4 : x2 = 4
  · rw [if_pos hz_4] at hF
    refine lv_tableIn (off := 90) (tgt := 96) C.1.1 C.1.2.1 dX11_grotto_6 (by rw [hz_4]; decide) (by rw [hz_4]; decide) (by rw [hz_4]; decide) (by decide) ?_
    exact bX11_grotto_96 C O Tb X (lv_sub hl [0, 1] rfl) hF
  rw [if_neg hz_4] at hF
  by_cases hz_5 : x2 = 5
  · rw [if_pos hz_5] at hF
    refine lv_tableIn (off := 110) (tgt := 116) C.1.1 C.1.2.1 dX11_grotto_6 (by rw [hz_5]; decide) (by rw [hz_5]; decide) (by rw [hz_5]; decide) (by decide) ?_
    exact bX11_grotto_116 C O Tb X (lv_sub hl [0, 1] rfl) hF
  rw [if_neg hz_5] at hF
  by_cases hz_6 : x2 = 6
  · rw [if_pos hz_6] at hF
    refine lv_tableIn (off := 126) (tgt := 132) C.1.1 C.1.2.1 dX11_grotto_6 (by rw [hz_6]; decide) (by rw [hz_6]; decide) (by rw [hz_6]; decide) (by decide) ?_
    exact bX11_grotto_132 C O Tb X (lv_sub hl [0, 1] rfl) hF
  rw [if_neg hz_6] at hF
  refine lv_tableOut (tgt := 138) C.1.1 C.1.2.1 dX11_grotto_6 (g_tsw 0 6 _ ?_) (by decide) ?_
  · intro i hi1 hi2
    rcases (show i = 0 ∨ i = 1 ∨ i = 2 ∨ i = 3 ∨ i = 4 ∨ i = 5 ∨ i = 6 by omega) with rfl | rfl | rfl | rfl | rfl | rfl | rfl
    · exact hz_0
    · exact hz_1
    · exact hz_2
    · exact hz_3
    · exact hz_4
    · exact hz_5
    · exact hz_6
  exact bX11_grotto_138 C O Tb X (lv_sub hl [] rfl) hF
noncomputable def fX11_grotto (N : Nat) (x1 : Int32) (x2 : Int32) (S : gS) : Option (tR) := fX11_grotto_b0 N x1 x2 S
theorem kX11_grotto {l : Launch} {D : va_G} {g : Nat → Nat} {cI cB cZ cQ : ClassId} {Am : (Nat → Prop) → State → Heap → Prop} {aK aV : Nat → Nat} (O : tO l g cI cB cZ cQ Am aK aV) (P : gAm Am) (N : Nat) (x1 : Int32) (x2 : Int32) (S : gS) (o : tR) (hF : fX11_grotto N x1 x2 S = some o) : gN l yX11_grotto cX11_grotto 3 ((some .int)) 7 2 D (xtys cI cB cZ cQ) (xcell g cI cB cZ cQ) xord g Am [.ref (g 0), .int x1, .int x2] S false o :=
  gN_of P (by decide) (Nat.le_of_ble_eq_true rfl) (fun p e s m args below meth c ls C Tb X hl => bX11_grotto_0 C O Tb X (lv_sub hl [0, 1, 2] rfl) hF)
-- X11.guild
noncomputable def fX11_guild_b96 (N : Nat) (S : gS) : Option (tR) := some (1, 0, S)
theorem bX11_guild_96 {N : Nat} {S : gS} {H : Heap} {locs : List Loc} {ls : Array Slot} {o : tR} (C : gC p s m args meth c cX11_guild 4 RX11 ((some .int)) D (xtys cI cB cZ cQ) xord g Am) (O : tO l g cI cB cZ cQ Am aK aV) (Tb : ∀ x ∈ c.exceptionTable.toList, False) (X : gX D (xcell g cI cB cZ cQ) xord g S s H locs) (hl : lv_has ls 4 []) (hF : fX11_guild_b96 N S = some o) : W p l e (rmx 7 2) s m args below meth c H locs 1 6 (gEX below args s D (xtys cI cB cZ cQ) (xcell g cI cB cZ cQ) xord g 2 false o) (F0 m 96 ls []) := by
  unfold fX11_guild_b96 at hF
  cases hF
  exact t_newN (ii := 23) C O Tb X hl.1 rfl dX11_guild_96 dX11_guild_99 dX11_guild_100 dX11_guild_102 dX11_guild_105 (Nat.le_of_ble_eq_true rfl) (Nat.le_of_ble_eq_true rfl) (Nat.le_of_ble_eq_true rfl) (Nat.le_of_ble_eq_true rfl) (by decide) (by decide)
noncomputable def fX11_guild_b90 (N : Nat) (x1 : Int32) (S : gS) : Option (tR) := bnd (fX11_costNow N x1 S) fun q1 => (some (0, q1.1, q1.2))
theorem bX11_guild_90 {N : Nat} {x1 : Int32} {S : gS} {H : Heap} {locs : List Loc} {ls : Array Slot} {o : tR} (C : gC p s m args meth c cX11_guild 4 RX11 ((some .int)) D (xtys cI cB cZ cQ) xord g Am) (O : tO l g cI cB cZ cQ Am aK aV) (Tb : ∀ x ∈ c.exceptionTable.toList, False) (X : gX D (xcell g cI cB cZ cQ) xord g S s H locs) (hl : lv_has ls 4 [(0, .ref (g 0)), (1, .int x1)]) (hF : fX11_guild_b90 N x1 S = some o) : W p l e (rmx 7 2) s m args below meth c H locs 1 6 (gEX below args s D (xtys cI cB cZ cQ) (xcell g cI cB cZ cQ) xord g 2 false o) (F0 m 90 ls []) := by
  unfold fX11_guild_b90 at hF
  refine lv_aload_n C.1.1 C.1.2.1 dX11_guild_90 rfl (lv_at hl 0 rfl) ?_
  refine lv_iload_n C.1.1 C.1.2.1 dX11_guild_91 rfl (lv_at hl 1 rfl) ?_
  obtain ⟨q1, hq1, hF⟩ := bnd_some hF
  refine x_callVi C X (k := 0) xv_X11_209 (rfl : xk 0 = 11) rfl rfl (by decide) (kX11_costNow O.1.1 C.2.2.2.2.1 N x1 S q1 hq1) (Nat.le_of_ble_eq_true rfl) (Nat.le_of_ble_eq_true rfl) (Nat.le_of_ble_eq_true rfl) (Nat.le_of_ble_eq_true rfl) rfl hl.1 rfl (Nat.le_of_ble_eq_true rfl) dX11_guild_92 (fun H locs X => ?_)
  cases hF
  exact t_iret C X (by decide) (by decide) dX11_guild_95
noncomputable def fX11_guild_b83 (N : Nat) (x1 : Int32) (S : gS) : Option (tR) := chk (inb x1 6) (some (0, S 25 (Int32.toNatClampNeg x1), S))
theorem bX11_guild_83 {N : Nat} {x1 : Int32} {S : gS} {H : Heap} {locs : List Loc} {ls : Array Slot} {o : tR} (C : gC p s m args meth c cX11_guild 4 RX11 ((some .int)) D (xtys cI cB cZ cQ) xord g Am) (O : tO l g cI cB cZ cQ Am aK aV) (Tb : ∀ x ∈ c.exceptionTable.toList, False) (X : gX D (xcell g cI cB cZ cQ) xord g S s H locs) (hl : lv_has ls 4 [(1, .int x1), (3, .ref (g 21))]) (hF : fX11_guild_b83 N x1 S = some o) : W p l e (rmx 7 2) s m args below meth c H locs 1 6 (gEX below args s D (xtys cI cB cZ cQ) (xcell g cI cB cZ cQ) xord g 2 false o) (F0 m 83 ls []) := by
  unfold fX11_guild_b83 at hF
  refine lv_aload_n C.1.1 C.1.2.1 dX11_guild_83 rfl (lv_at hl 1 rfl) ?_
  refine xg_X11_206 C O.1.1 X (k := 21) rfl (j := 25) rfl dX11_guild_84 ?_
  refine lv_iload_n C.1.1 C.1.2.1 dX11_guild_87 rfl (lv_at hl 0 rfl) ?_
  obtain ⟨h_1, hF⟩ := chk_some hF
  refine x_rI C X (k := 25) rfl (n := 6) rfl  (inb_vp h_1) rfl dX11_guild_88 ?_
  cases hF
  exact t_iret C X (by decide) (by decide) dX11_guild_89
noncomputable def fX11_guild_b76 (N : Nat) (x1 : Int32) (S : gS) : Option (tR) := chk (inb x1 6) (some (0, S 24 (Int32.toNatClampNeg x1), S))
theorem bX11_guild_76 {N : Nat} {x1 : Int32} {S : gS} {H : Heap} {locs : List Loc} {ls : Array Slot} {o : tR} (C : gC p s m args meth c cX11_guild 4 RX11 ((some .int)) D (xtys cI cB cZ cQ) xord g Am) (O : tO l g cI cB cZ cQ Am aK aV) (Tb : ∀ x ∈ c.exceptionTable.toList, False) (X : gX D (xcell g cI cB cZ cQ) xord g S s H locs) (hl : lv_has ls 4 [(1, .int x1), (3, .ref (g 21))]) (hF : fX11_guild_b76 N x1 S = some o) : W p l e (rmx 7 2) s m args below meth c H locs 1 6 (gEX below args s D (xtys cI cB cZ cQ) (xcell g cI cB cZ cQ) xord g 2 false o) (F0 m 76 ls []) := by
  unfold fX11_guild_b76 at hF
  refine lv_aload_n C.1.1 C.1.2.1 dX11_guild_76 rfl (lv_at hl 1 rfl) ?_
  refine xg_X11_203 C O.1.1 X (k := 21) rfl (j := 24) rfl dX11_guild_77 ?_
  refine lv_iload_n C.1.1 C.1.2.1 dX11_guild_80 rfl (lv_at hl 0 rfl) ?_
  obtain ⟨h_1, hF⟩ := chk_some hF
  refine x_rI C X (k := 24) rfl (n := 6) rfl  (inb_vp h_1) rfl dX11_guild_81 ?_
  cases hF
  exact t_iret C X (by decide) (by decide) dX11_guild_82
noncomputable def fX11_guild_b69 (N : Nat) (x1 : Int32) (S : gS) : Option (tR) := chk (inb x1 6) (some (0, S 23 (Int32.toNatClampNeg x1), S))
theorem bX11_guild_69 {N : Nat} {x1 : Int32} {S : gS} {H : Heap} {locs : List Loc} {ls : Array Slot} {o : tR} (C : gC p s m args meth c cX11_guild 4 RX11 ((some .int)) D (xtys cI cB cZ cQ) xord g Am) (O : tO l g cI cB cZ cQ Am aK aV) (Tb : ∀ x ∈ c.exceptionTable.toList, False) (X : gX D (xcell g cI cB cZ cQ) xord g S s H locs) (hl : lv_has ls 4 [(1, .int x1), (3, .ref (g 21))]) (hF : fX11_guild_b69 N x1 S = some o) : W p l e (rmx 7 2) s m args below meth c H locs 1 6 (gEX below args s D (xtys cI cB cZ cQ) (xcell g cI cB cZ cQ) xord g 2 false o) (F0 m 69 ls []) := by
  unfold fX11_guild_b69 at hF
  refine lv_aload_n C.1.1 C.1.2.1 dX11_guild_69 rfl (lv_at hl 1 rfl) ?_
  refine xg_X11_200 C O.1.1 X (k := 21) rfl (j := 23) rfl dX11_guild_70 ?_
  refine lv_iload_n C.1.1 C.1.2.1 dX11_guild_73 rfl (lv_at hl 0 rfl) ?_
  obtain ⟨h_1, hF⟩ := chk_some hF
  refine x_rI C X (k := 23) rfl (n := 6) rfl  (inb_vp h_1) rfl dX11_guild_74 ?_
  cases hF
  exact t_iret C X (by decide) (by decide) dX11_guild_75
noncomputable def fX11_guild_b62 (N : Nat) (x1 : Int32) (S : gS) : Option (tR) := chk (inb x1 6) (some (0, S 22 (Int32.toNatClampNeg x1), S))
theorem bX11_guild_62 {N : Nat} {x1 : Int32} {S : gS} {H : Heap} {locs : List Loc} {ls : Array Slot} {o : tR} (C : gC p s m args meth c cX11_guild 4 RX11 ((some .int)) D (xtys cI cB cZ cQ) xord g Am) (O : tO l g cI cB cZ cQ Am aK aV) (Tb : ∀ x ∈ c.exceptionTable.toList, False) (X : gX D (xcell g cI cB cZ cQ) xord g S s H locs) (hl : lv_has ls 4 [(1, .int x1), (3, .ref (g 21))]) (hF : fX11_guild_b62 N x1 S = some o) : W p l e (rmx 7 2) s m args below meth c H locs 1 6 (gEX below args s D (xtys cI cB cZ cQ) (xcell g cI cB cZ cQ) xord g 2 false o) (F0 m 62 ls []) := by
  unfold fX11_guild_b62 at hF
  refine lv_aload_n C.1.1 C.1.2.1 dX11_guild_62 rfl (lv_at hl 1 rfl) ?_
  refine xg_X11_197 C O.1.1 X (k := 21) rfl (j := 22) rfl dX11_guild_63 ?_
  refine lv_iload_n C.1.1 C.1.2.1 dX11_guild_66 rfl (lv_at hl 0 rfl) ?_
  obtain ⟨h_1, hF⟩ := chk_some hF
  refine x_rI C X (k := 22) rfl (n := 6) rfl  (inb_vp h_1) rfl dX11_guild_67 ?_
  cases hF
  exact t_iret C X (by decide) (by decide) dX11_guild_68
noncomputable def fX11_guild_b52 (N : Nat) (x1 : Int32) (S : gS) : Option (tR) := lt (xtw S) fun T1 => (chk (inb x1 6) (some (0, S (T1 + 5) (Int32.toNatClampNeg x1), S)))
theorem bX11_guild_52 {N : Nat} {x1 : Int32} {S : gS} {H : Heap} {locs : List Loc} {ls : Array Slot} {o : tR} (C : gC p s m args meth c cX11_guild 4 RX11 ((some .int)) D (xtys cI cB cZ cQ) xord g Am) (O : tO l g cI cB cZ cQ Am aK aV) (Tb : ∀ x ∈ c.exceptionTable.toList, False) (X : gX D (xcell g cI cB cZ cQ) xord g S s H locs) (hl : lv_has ls 4 [(0, .ref (g 0)), (1, .int x1)]) (hF : fX11_guild_b52 N x1 S = some o) : W p l e (rmx 7 2) s m args below meth c H locs 1 6 (gEX below args s D (xtys cI cB cZ cQ) (xcell g cI cB cZ cQ) xord g 2 false o) (F0 m 52 ls []) := by
  unfold fX11_guild_b52 at hF
  refine lv_aload_n C.1.1 C.1.2.1 dX11_guild_52 rfl (lv_at hl 0 rfl) ?_
  obtain ⟨T1, eT1, hF⟩ := lt_some hF
  have hk_T1 := xtw_k eT1
  refine xg_X11_57 C O.1.1 X (T := T1) eT1 (k := 0) rfl dX11_guild_53 ?_
  refine xg_X11_194 C O.1.1 X (k := T1) hk_T1 (j := T1 + 5) rfl dX11_guild_56 ?_
  refine lv_iload_n C.1.1 C.1.2.1 dX11_guild_59 rfl (lv_at hl 1 rfl) ?_
  obtain ⟨h_1, hF⟩ := chk_some hF
  refine x_rI C X (k := T1 + 5) (xs_9_6 hk_T1).1 (n := 6) (xs_9_6 hk_T1).2  (inb_vp h_1) rfl dX11_guild_60 ?_
  cases hF
  exact t_iret C X (by decide) (by decide) dX11_guild_61
noncomputable def fX11_guild_b0 (N : Nat) (x1 : Int32) (x2 : Int32) (S : gS) : Option (tR) := bnx (fX11_needGuild N x1 S) fun q1 => (if x2 = 0 then fX11_guild_b52 N x1 q1.2.2 else if x2 = 1 then fX11_guild_b62 N x1 q1.2.2 else if x2 = 2 then fX11_guild_b69 N x1 q1.2.2 else if x2 = 3 then fX11_guild_b76 N x1 q1.2.2 else if x2 = 4 then fX11_guild_b83 N x1 q1.2.2 else if x2 = 5 then fX11_guild_b90 N x1 q1.2.2 else fX11_guild_b96 N q1.2.2)
theorem bX11_guild_0 {N : Nat} {x1 : Int32} {x2 : Int32} {S : gS} {H : Heap} {locs : List Loc} {ls : Array Slot} {o : tR} (C : gC p s m args meth c cX11_guild 4 RX11 ((some .int)) D (xtys cI cB cZ cQ) xord g Am) (O : tO l g cI cB cZ cQ Am aK aV) (Tb : ∀ x ∈ c.exceptionTable.toList, False) (X : gX D (xcell g cI cB cZ cQ) xord g S s H locs) (hl : lv_has ls 4 [(0, .ref (g 0)), (1, .int x1), (2, .int x2)]) (hF : fX11_guild_b0 N x1 x2 S = some o) : W p l e (rmx 7 2) s m args below meth c H locs 0 0 (gEX below args s D (xtys cI cB cZ cQ) (xcell g cI cB cZ cQ) xord g 2 false o) (F0 m 0 ls []) := by
  unfold fX11_guild_b0 at hF
  refine lv_aload_n C.1.1 C.1.2.1 dX11_guild_0 rfl (lv_at hl 0 rfl) ?_
  refine lv_iload_n C.1.1 C.1.2.1 dX11_guild_1 rfl (lv_at hl 1 rfl) ?_
  rcases (bnx_some hF).symm with ⟨q1, hq1, zq1, eo⟩ | ⟨q1, hq1, zq1, hF⟩
  · subst eo
    exact t_thr (x_preT C X xv_X11_191 rfl (kX11_needGuild O C.2.2.2.2.1 N x1 S q1 hq1) (Nat.le_of_ble_eq_true rfl) (Nat.le_of_ble_eq_true rfl) (Nat.le_of_ble_eq_true rfl) (Nat.le_of_ble_eq_true rfl) rfl hl.1 rfl (Nat.le_of_ble_eq_true rfl) dX11_guild_2) zq1 C Tb X (by decide) (by decide)
  refine t_okv (x_preT C X xv_X11_191 rfl (kX11_needGuild O C.2.2.2.2.1 N x1 S q1 hq1) (Nat.le_of_ble_eq_true rfl) (Nat.le_of_ble_eq_true rfl) (Nat.le_of_ble_eq_true rfl) (Nat.le_of_ble_eq_true rfl) rfl hl.1 rfl (Nat.le_of_ble_eq_true rfl) dX11_guild_2) zq1 X (fun H locs X => ?_)
  refine W.widen (k := 1) (n := 6) (by decide) (by decide) ?_
  refine lv_aload_n C.1.1 C.1.2.1 dX11_guild_5 rfl (lv_at hl 0 rfl) ?_
  refine xg_X11_19 C O.1.1 X (k := 0) rfl (j := 20) rfl dX11_guild_6 ?_
  refine xg_X11_105 C O.1.1 X (k := 20) rfl (j := 21) rfl dX11_guild_9 ?_
  refine lv_astore_n (lv' := [(3, .ref (g 21)), (0, .ref (g 0)), (1, .int x1), (2, .int x2)]) C.1.1 C.1.2.1 dX11_guild_12 rfl hl (by decide) rfl (fun ls hl => ?_)
  refine lv_iload_n C.1.1 C.1.2.1 dX11_guild_13 rfl (lv_at hl 3 rfl) ?_
  by_cases hz_0 : x2 = 0
  · rw [if_pos hz_0] at hF
    refine lv_tableIn (off := 38) (tgt := 52) C.1.1 C.1.2.1 dX11_guild_14 (by rw [hz_0]; decide) (by rw [hz_0]; decide) (by rw [hz_0]; decide) (by decide) ?_
    exact bX11_guild_52 C O Tb X (lv_sub hl [1, 2] rfl) hF
  rw [if_neg hz_0] at hF
  by_cases hz_1 : x2 = 1
  · rw [if_pos hz_1] at hF
    refine lv_tableIn (off := 48) (tgt := 62) C.1.1 C.1.2.1 dX11_guild_14 (by rw [hz_1]; decide) (by rw [hz_1]; decide) (by rw [hz_1]; decide) (by decide) ?_
    exact bX11_guild_62 C O Tb X (lv_sub hl [2, 0] rfl) hF
  rw [if_neg hz_1] at hF
  by_cases hz_2 : x2 = 2
  · rw [if_pos hz_2] at hF
    refine lv_tableIn (off := 55) (tgt := 69) C.1.1 C.1.2.1 dX11_guild_14 (by rw [hz_2]; decide) (by rw [hz_2]; decide) (by rw [hz_2]; decide) (by decide) ?_
    exact bX11_guild_69 C O Tb X (lv_sub hl [2, 0] rfl) hF
  rw [if_neg hz_2] at hF
  by_cases hz_3 : x2 = 3
  · rw [if_pos hz_3] at hF
    refine lv_tableIn (off := 62) (tgt := 76) C.1.1 C.1.2.1 dX11_guild_14 (by rw [hz_3]; decide) (by rw [hz_3]; decide) (by rw [hz_3]; decide) (by decide) ?_
    exact bX11_guild_76 C O Tb X (lv_sub hl [2, 0] rfl) hF
  rw [if_neg hz_3] at hF
  by_cases hz_4 : x2 = 4
  · rw [if_pos hz_4] at hF
    refine lv_tableIn (off := 69) (tgt := 83) C.1.1 C.1.2.1 dX11_guild_14 (by rw [hz_4]; decide) (by rw [hz_4]; decide) (by rw [hz_4]; decide) (by decide) ?_
    exact bX11_guild_83 C O Tb X (lv_sub hl [2, 0] rfl) hF
  rw [if_neg hz_4] at hF
  by_cases hz_5 : x2 = 5
  · rw [if_pos hz_5] at hF
    refine lv_tableIn (off := 76) (tgt := 90) C.1.1 C.1.2.1 dX11_guild_14 (by rw [hz_5]; decide) (by rw [hz_5]; decide) (by rw [hz_5]; decide) (by decide) ?_
    exact bX11_guild_90 C O Tb X (lv_sub hl [1, 2] rfl) hF
  rw [if_neg hz_5] at hF
  refine lv_tableOut (tgt := 96) C.1.1 C.1.2.1 dX11_guild_14 (g_tsw 0 5 _ ?_) (by decide) ?_
  · intro i hi1 hi2
    rcases (show i = 0 ∨ i = 1 ∨ i = 2 ∨ i = 3 ∨ i = 4 ∨ i = 5 by omega) with rfl | rfl | rfl | rfl | rfl | rfl
    · exact hz_0
    · exact hz_1
    · exact hz_2
    · exact hz_3
    · exact hz_4
    · exact hz_5
  exact bX11_guild_96 C O Tb X (lv_sub hl [] rfl) hF
noncomputable def fX11_guild (N : Nat) (x1 : Int32) (x2 : Int32) (S : gS) : Option (tR) := fX11_guild_b0 N x1 x2 S
theorem kX11_guild {l : Launch} {D : va_G} {g : Nat → Nat} {cI cB cZ cQ : ClassId} {Am : (Nat → Prop) → State → Heap → Prop} {aK aV : Nat → Nat} (O : tO l g cI cB cZ cQ Am aK aV) (P : gAm Am) (N : Nat) (x1 : Int32) (x2 : Int32) (S : gS) (o : tR) (hF : fX11_guild N x1 x2 S = some o) : gN l yX11_guild cX11_guild 4 ((some .int)) 7 2 D (xtys cI cB cZ cQ) (xcell g cI cB cZ cQ) xord g Am [.ref (g 0), .int x1, .int x2] S false o :=
  gN_of P (by decide) (Nat.le_of_ble_eq_true rfl) (fun p e s m args below meth c ls C Tb X hl => bX11_guild_0 C O Tb X (lv_sub hl [0, 1, 2] rfl) hF)
-- X11.hire
noncomputable def fX11_hire_b40 (N : Nat) (x1 : Int32) (x2 : Int32) (S : gS) : Option (tR) := bnd (fX1_keepAct N 20 S) fun q1 => (chk (inb x1 6) (lt (sU q1.2 25 (Int32.toNatClampNeg x1) x2) fun S1 => (some (0, 1, S1))))
theorem bX11_hire_40 {N : Nat} {x1 : Int32} {x2 : Int32} {S : gS} {H : Heap} {locs : List Loc} {ls : Array Slot} {o : tR} (C : gC p s m args meth c cX11_hire 3 RX11 ((some .boolean)) D (xtys cI cB cZ cQ) xord g Am) (O : tO l g cI cB cZ cQ Am aK aV) (Tb : ∀ x ∈ c.exceptionTable.toList, False) (X : gX D (xcell g cI cB cZ cQ) xord g S s H locs) (hl : lv_has ls 3 [(0, .ref (g 0)), (1, .int x1), (2, .int x2)]) (hF : fX11_hire_b40 N x1 x2 S = some o) : W p l e (rmx 7 2) s m args below meth c H locs 2 12 (gEX below args s D (xtys cI cB cZ cQ) (xcell g cI cB cZ cQ) xord g 2 false o) (F0 m 40 ls []) := by
  unfold fX11_hire_b40 at hF
  refine lv_aload_n C.1.1 C.1.2.1 dX11_hire_40 rfl (lv_at hl 0 rfl) ?_
  refine xg_X11_19 C O.1.1 X (k := 0) rfl (j := 20) rfl dX11_hire_41 ?_
  obtain ⟨q1, hq1, hF⟩ := bnd_some hF
  refine x_callV C X (k := 20) xv_X11_218 (rfl : xk 20 = 1) rfl rfl (by decide) (kX1_keepAct O.1 C.2.2.2.2.1 N 20 (rfl : xk 20 = 1) S q1 hq1) (Nat.le_of_ble_eq_true rfl) (Nat.le_of_ble_eq_true rfl) (Nat.le_of_ble_eq_true rfl) (Nat.le_of_ble_eq_true rfl) rfl hl.1 rfl (Nat.le_of_ble_eq_true rfl) dX11_hire_44 (fun H locs X => ?_)
  refine lv_aload_n C.1.1 C.1.2.1 dX11_hire_47 rfl (lv_at hl 0 rfl) ?_
  refine xg_X11_19 C O.1.1 X (k := 0) rfl (j := 20) rfl dX11_hire_48 ?_
  refine xg_X11_105 C O.1.1 X (k := 20) rfl (j := 21) rfl dX11_hire_51 ?_
  refine xg_X11_206 C O.1.1 X (k := 21) rfl (j := 25) rfl dX11_hire_54 ?_
  refine lv_iload_n C.1.1 C.1.2.1 dX11_hire_57 rfl (lv_at hl 1 rfl) ?_
  refine lv_iload_n C.1.1 C.1.2.1 dX11_hire_58 rfl (lv_at hl 2 rfl) ?_
  obtain ⟨h_1, hF⟩ := chk_some hF
  obtain ⟨S1, eS1, hF⟩ := lt_some hF
  refine x_wI C O.1.1 X (k := 25) rfl (n := 6) rfl  (inb_vp h_1) rfl eS1 dX11_hire_59 (fun H locs X => ?_)
  refine lv_iconst (v := 1) C.1.1 C.1.2.1 dX11_hire_60 (by decide) ?_
  cases hF
  exact t_zret (x := 1) C X (by decide) (by decide) (by decide) dX11_hire_61
noncomputable def fX11_hire_b29 (N : Nat) (S : gS) : Option (tR) := bnd (fX1_refuse N 20 1 S) fun q1 => (some (0, 0, q1.2))
theorem bX11_hire_29 {N : Nat} {S : gS} {H : Heap} {locs : List Loc} {ls : Array Slot} {o : tR} (C : gC p s m args meth c cX11_hire 3 RX11 ((some .boolean)) D (xtys cI cB cZ cQ) xord g Am) (O : tO l g cI cB cZ cQ Am aK aV) (Tb : ∀ x ∈ c.exceptionTable.toList, False) (X : gX D (xcell g cI cB cZ cQ) xord g S s H locs) (hl : lv_has ls 3 [(0, .ref (g 0))]) (hF : fX11_hire_b29 N S = some o) : W p l e (rmx 7 2) s m args below meth c H locs 2 12 (gEX below args s D (xtys cI cB cZ cQ) (xcell g cI cB cZ cQ) xord g 2 false o) (F0 m 29 ls []) := by
  unfold fX11_hire_b29 at hF
  refine lv_aload_n C.1.1 C.1.2.1 dX11_hire_29 rfl (lv_at hl 0 rfl) ?_
  refine xg_X11_19 C O.1.1 X (k := 0) rfl (j := 20) rfl dX11_hire_30 ?_
  refine lv_iconst (v := 1) C.1.1 C.1.2.1 dX11_hire_33 (by decide) ?_
  obtain ⟨q1, hq1, hF⟩ := bnd_some hF
  refine x_callVi C X (k := 20) xv_X11_93 (rfl : xk 20 = 1) rfl rfl (by decide) (kX1_refuse O.1.1 C.2.2.2.2.1 N 20 1 (rfl : xk 20 = 1) S q1 hq1) (Nat.le_of_ble_eq_true rfl) (Nat.le_of_ble_eq_true rfl) (Nat.le_of_ble_eq_true rfl) (Nat.le_of_ble_eq_true rfl) rfl hl.1 rfl (Nat.le_of_ble_eq_true rfl) dX11_hire_34 (fun H locs X => ?_)
  refine lv_pop C.1.1 C.1.2.1 dX11_hire_37 rfl ?_
  refine lv_iconst (v := 0) C.1.1 C.1.2.1 dX11_hire_38 (by decide) ?_
  cases hF
  exact t_zret (x := 0) C X (by decide) (by decide) (by decide) dX11_hire_39
noncomputable def fX11_hire_b0 (N : Nat) (x1 : Int32) (x2 : Int32) (S : gS) : Option (tR) := bnx (fX11_needGuild N x1 S) fun q1 => (bnx (fX11_needGrotto N x2 q1.2.2) fun q2 => (lt (xtw q2.2.2) fun T1 => (bnd (fX7_holderOf N 21 T1 x2 q2.2.2) fun q3 => (if q3.1 = ((-1)) then fX11_hire_b40 N x1 x2 q3.2 else fX11_hire_b29 N q3.2))))
theorem bX11_hire_0 {N : Nat} {x1 : Int32} {x2 : Int32} {S : gS} {H : Heap} {locs : List Loc} {ls : Array Slot} {o : tR} (C : gC p s m args meth c cX11_hire 3 RX11 ((some .boolean)) D (xtys cI cB cZ cQ) xord g Am) (O : tO l g cI cB cZ cQ Am aK aV) (Tb : ∀ x ∈ c.exceptionTable.toList, False) (X : gX D (xcell g cI cB cZ cQ) xord g S s H locs) (hl : lv_has ls 3 [(0, .ref (g 0)), (1, .int x1), (2, .int x2)]) (hF : fX11_hire_b0 N x1 x2 S = some o) : W p l e (rmx 7 2) s m args below meth c H locs 0 0 (gEX below args s D (xtys cI cB cZ cQ) (xcell g cI cB cZ cQ) xord g 2 false o) (F0 m 0 ls []) := by
  unfold fX11_hire_b0 at hF
  refine lv_aload_n C.1.1 C.1.2.1 dX11_hire_0 rfl (lv_at hl 0 rfl) ?_
  refine lv_iload_n C.1.1 C.1.2.1 dX11_hire_1 rfl (lv_at hl 1 rfl) ?_
  rcases (bnx_some hF).symm with ⟨q1, hq1, zq1, eo⟩ | ⟨q1, hq1, zq1, hF⟩
  · subst eo
    exact t_thr (x_preT C X xv_X11_191 rfl (kX11_needGuild O C.2.2.2.2.1 N x1 S q1 hq1) (Nat.le_of_ble_eq_true rfl) (Nat.le_of_ble_eq_true rfl) (Nat.le_of_ble_eq_true rfl) (Nat.le_of_ble_eq_true rfl) rfl hl.1 rfl (Nat.le_of_ble_eq_true rfl) dX11_hire_2) zq1 C Tb X (by decide) (by decide)
  refine t_okv (x_preT C X xv_X11_191 rfl (kX11_needGuild O C.2.2.2.2.1 N x1 S q1 hq1) (Nat.le_of_ble_eq_true rfl) (Nat.le_of_ble_eq_true rfl) (Nat.le_of_ble_eq_true rfl) (Nat.le_of_ble_eq_true rfl) rfl hl.1 rfl (Nat.le_of_ble_eq_true rfl) dX11_hire_2) zq1 X (fun H locs X => ?_)
  refine W.widen (k := 1) (n := 6) (by decide) (by decide) ?_
  refine lv_aload_n C.1.1 C.1.2.1 dX11_hire_5 rfl (lv_at hl 0 rfl) ?_
  refine lv_iload_n C.1.1 C.1.2.1 dX11_hire_6 rfl (lv_at hl 2 rfl) ?_
  rcases (bnx_some hF).symm with ⟨q2, hq2, zq2, eo⟩ | ⟨q2, hq2, zq2, hF⟩
  · subst eo
    exact t_thr (x_preT C X xv_X11_162 rfl (kX11_needGrotto O C.2.2.2.2.1 N x2 q1.2.2 q2 hq2) (Nat.le_of_ble_eq_true rfl) (Nat.le_of_ble_eq_true rfl) (Nat.le_of_ble_eq_true rfl) (Nat.le_of_ble_eq_true rfl) rfl hl.1 rfl (Nat.le_of_ble_eq_true rfl) dX11_hire_7) zq2 C Tb X (by decide) (by decide)
  refine t_okv (x_preT C X xv_X11_162 rfl (kX11_needGrotto O C.2.2.2.2.1 N x2 q1.2.2 q2 hq2) (Nat.le_of_ble_eq_true rfl) (Nat.le_of_ble_eq_true rfl) (Nat.le_of_ble_eq_true rfl) (Nat.le_of_ble_eq_true rfl) rfl hl.1 rfl (Nat.le_of_ble_eq_true rfl) dX11_hire_7) zq2 X (fun H locs X => ?_)
  refine W.widen (k := 2) (n := 12) (by decide) (by decide) ?_
  refine lv_aload_n C.1.1 C.1.2.1 dX11_hire_10 rfl (lv_at hl 0 rfl) ?_
  refine xg_X11_19 C O.1.1 X (k := 0) rfl (j := 20) rfl dX11_hire_11 ?_
  refine xg_X11_105 C O.1.1 X (k := 20) rfl (j := 21) rfl dX11_hire_14 ?_
  refine lv_aload_n C.1.1 C.1.2.1 dX11_hire_17 rfl (lv_at hl 0 rfl) ?_
  obtain ⟨T1, eT1, hF⟩ := lt_some hF
  have hk_T1 := xtw_k eT1
  refine xg_X11_57 C O.1.1 X (T := T1) eT1 (k := 0) rfl dX11_hire_18 ?_
  refine lv_iload_n C.1.1 C.1.2.1 dX11_hire_21 rfl (lv_at hl 2 rfl) ?_
  obtain ⟨q3, hq3, hF⟩ := bnd_some hF
  refine x_callVi C X (k := 21) xv_X11_182 (rfl : xk 21 = 7) rfl rfl (by decide) (kX7_holderOf O.1.1 C.2.2.2.2.1 N 21 T1 x2 (rfl : xk 21 = 7) (hk_T1 : xk T1 = 9) q2.2.2 q3 hq3) (Nat.le_of_ble_eq_true rfl) (Nat.le_of_ble_eq_true rfl) (Nat.le_of_ble_eq_true rfl) (Nat.le_of_ble_eq_true rfl) rfl hl.1 rfl (Nat.le_of_ble_eq_true rfl) dX11_hire_22 (fun H locs X => ?_)
  refine lv_iconst (v := (-1)) C.1.1 C.1.2.1 dX11_hire_25 (by decide) ?_
  refine lv_icmp_eq (tgt := 40) C.1.1 C.1.2.1 dX11_hire_26 (by decide) (fun h_z => ?_) (fun h_z => ?_)
  · rw [if_pos h_z] at hF
    exact bX11_hire_40 C O Tb X (lv_sub hl [0, 1, 2] rfl) hF
  · rw [if_neg h_z] at hF
    exact bX11_hire_29 C O Tb X (lv_sub hl [0] rfl) hF
noncomputable def fX11_hire (N : Nat) (x1 : Int32) (x2 : Int32) (S : gS) : Option (tR) := fX11_hire_b0 N x1 x2 S
theorem kX11_hire {l : Launch} {D : va_G} {g : Nat → Nat} {cI cB cZ cQ : ClassId} {Am : (Nat → Prop) → State → Heap → Prop} {aK aV : Nat → Nat} (O : tO l g cI cB cZ cQ Am aK aV) (P : gAm Am) (N : Nat) (x1 : Int32) (x2 : Int32) (S : gS) (o : tR) (hF : fX11_hire N x1 x2 S = some o) : gN l yX11_hire cX11_hire 3 ((some .boolean)) 7 2 D (xtys cI cB cZ cQ) (xcell g cI cB cZ cQ) xord g Am [.ref (g 0), .int x1, .int x2] S false o :=
  gN_of P (by decide) (Nat.le_of_ble_eq_true rfl) (fun p e s m args below meth c ls C Tb X hl => bX11_hire_0 C O Tb X (lv_sub hl [0, 1, 2] rfl) hF)
-- X11.dismiss
noncomputable def fX11_dismiss_b32 (N : Nat) (x1 : Int32) (x2 : Int32) (S : gS) : Option (tR) := bnd (fX1_keepAct N 20 S) fun q1 => (chk (inb x1 6) (lt (sU q1.2 25 (Int32.toNatClampNeg x1) ((-1))) fun S1 => (some (0, x2, S1))))
theorem bX11_dismiss_32 {N : Nat} {x1 : Int32} {x2 : Int32} {S : gS} {H : Heap} {locs : List Loc} {ls : Array Slot} {o : tR} (C : gC p s m args meth c cX11_dismiss 3 RX11 ((some .int)) D (xtys cI cB cZ cQ) xord g Am) (O : tO l g cI cB cZ cQ Am aK aV) (Tb : ∀ x ∈ c.exceptionTable.toList, False) (X : gX D (xcell g cI cB cZ cQ) xord g S s H locs) (hl : lv_has ls 3 [(0, .ref (g 0)), (1, .int x1), (2, .int x2)]) (hF : fX11_dismiss_b32 N x1 x2 S = some o) : W p l e (rmx 7 1) s m args below meth c H locs 1 6 (gEX below args s D (xtys cI cB cZ cQ) (xcell g cI cB cZ cQ) xord g 1 false o) (F0 m 32 ls []) := by
  unfold fX11_dismiss_b32 at hF
  refine lv_aload_n C.1.1 C.1.2.1 dX11_dismiss_32 rfl (lv_at hl 0 rfl) ?_
  refine xg_X11_19 C O.1.1 X (k := 0) rfl (j := 20) rfl dX11_dismiss_33 ?_
  obtain ⟨q1, hq1, hF⟩ := bnd_some hF
  refine x_callV C X (k := 20) xv_X11_218 (rfl : xk 20 = 1) rfl rfl (by decide) (kX1_keepAct O.1 C.2.2.2.2.1 N 20 (rfl : xk 20 = 1) S q1 hq1) (Nat.le_of_ble_eq_true rfl) (Nat.le_of_ble_eq_true rfl) (Nat.le_of_ble_eq_true rfl) (Nat.le_of_ble_eq_true rfl) rfl hl.1 rfl (Nat.le_of_ble_eq_true rfl) dX11_dismiss_36 (fun H locs X => ?_)
  refine lv_aload_n C.1.1 C.1.2.1 dX11_dismiss_39 rfl (lv_at hl 0 rfl) ?_
  refine xg_X11_19 C O.1.1 X (k := 0) rfl (j := 20) rfl dX11_dismiss_40 ?_
  refine xg_X11_105 C O.1.1 X (k := 20) rfl (j := 21) rfl dX11_dismiss_43 ?_
  refine xg_X11_206 C O.1.1 X (k := 21) rfl (j := 25) rfl dX11_dismiss_46 ?_
  refine lv_iload_n C.1.1 C.1.2.1 dX11_dismiss_49 rfl (lv_at hl 1 rfl) ?_
  refine lv_iconst (v := (-1)) C.1.1 C.1.2.1 dX11_dismiss_50 (by decide) ?_
  obtain ⟨h_1, hF⟩ := chk_some hF
  obtain ⟨S1, eS1, hF⟩ := lt_some hF
  refine x_wI C O.1.1 X (k := 25) rfl (n := 6) rfl  (inb_vp h_1) rfl eS1 dX11_dismiss_51 (fun H locs X => ?_)
  refine lv_iload_n C.1.1 C.1.2.1 dX11_dismiss_52 rfl (lv_at hl 2 rfl) ?_
  cases hF
  exact t_iret C X (by decide) (by decide) dX11_dismiss_53
noncomputable def fX11_dismiss_b23 (N : Nat) (S : gS) : Option (tR) := bnd (fX1_refuse N 20 1 S) fun q1 => (some (0, q1.1, q1.2))
theorem bX11_dismiss_23 {N : Nat} {S : gS} {H : Heap} {locs : List Loc} {ls : Array Slot} {o : tR} (C : gC p s m args meth c cX11_dismiss 3 RX11 ((some .int)) D (xtys cI cB cZ cQ) xord g Am) (O : tO l g cI cB cZ cQ Am aK aV) (Tb : ∀ x ∈ c.exceptionTable.toList, False) (X : gX D (xcell g cI cB cZ cQ) xord g S s H locs) (hl : lv_has ls 3 [(0, .ref (g 0))]) (hF : fX11_dismiss_b23 N S = some o) : W p l e (rmx 7 1) s m args below meth c H locs 1 6 (gEX below args s D (xtys cI cB cZ cQ) (xcell g cI cB cZ cQ) xord g 1 false o) (F0 m 23 ls []) := by
  unfold fX11_dismiss_b23 at hF
  refine lv_aload_n C.1.1 C.1.2.1 dX11_dismiss_23 rfl (lv_at hl 0 rfl) ?_
  refine xg_X11_19 C O.1.1 X (k := 0) rfl (j := 20) rfl dX11_dismiss_24 ?_
  refine lv_iconst (v := 1) C.1.1 C.1.2.1 dX11_dismiss_27 (by decide) ?_
  obtain ⟨q1, hq1, hF⟩ := bnd_some hF
  refine x_callVi C X (k := 20) xv_X11_93 (rfl : xk 20 = 1) rfl rfl (by decide) (kX1_refuse O.1.1 C.2.2.2.2.1 N 20 1 (rfl : xk 20 = 1) S q1 hq1) (Nat.le_of_ble_eq_true rfl) (Nat.le_of_ble_eq_true rfl) (Nat.le_of_ble_eq_true rfl) (Nat.le_of_ble_eq_true rfl) rfl hl.1 rfl (Nat.le_of_ble_eq_true rfl) dX11_dismiss_28 (fun H locs X => ?_)
  cases hF
  exact t_iret C X (by decide) (by decide) dX11_dismiss_31
noncomputable def fX11_dismiss_b0 (N : Nat) (x1 : Int32) (S : gS) : Option (tR) := bnx (fX11_needGuild N x1 S) fun q1 => (chk (inb x1 6) (if (q1.2.2 25 (Int32.toNatClampNeg x1)) = ((-1)) then fX11_dismiss_b23 N q1.2.2 else fX11_dismiss_b32 N x1 (q1.2.2 25 (Int32.toNatClampNeg x1)) q1.2.2))
theorem bX11_dismiss_0 {N : Nat} {x1 : Int32} {S : gS} {H : Heap} {locs : List Loc} {ls : Array Slot} {o : tR} (C : gC p s m args meth c cX11_dismiss 3 RX11 ((some .int)) D (xtys cI cB cZ cQ) xord g Am) (O : tO l g cI cB cZ cQ Am aK aV) (Tb : ∀ x ∈ c.exceptionTable.toList, False) (X : gX D (xcell g cI cB cZ cQ) xord g S s H locs) (hl : lv_has ls 3 [(0, .ref (g 0)), (1, .int x1)]) (hF : fX11_dismiss_b0 N x1 S = some o) : W p l e (rmx 7 1) s m args below meth c H locs 0 0 (gEX below args s D (xtys cI cB cZ cQ) (xcell g cI cB cZ cQ) xord g 1 false o) (F0 m 0 ls []) := by
  unfold fX11_dismiss_b0 at hF
  refine lv_aload_n C.1.1 C.1.2.1 dX11_dismiss_0 rfl (lv_at hl 0 rfl) ?_
  refine lv_iload_n C.1.1 C.1.2.1 dX11_dismiss_1 rfl (lv_at hl 1 rfl) ?_
  rcases (bnx_some hF).symm with ⟨q1, hq1, zq1, eo⟩ | ⟨q1, hq1, zq1, hF⟩
  · subst eo
    exact t_thr (x_preT C X xv_X11_191 rfl (kX11_needGuild O C.2.2.2.2.1 N x1 S q1 hq1) (Nat.le_of_ble_eq_true rfl) (Nat.le_of_ble_eq_true rfl) (Nat.le_of_ble_eq_true rfl) (Nat.le_of_ble_eq_true rfl) rfl hl.1 rfl (Nat.le_of_ble_eq_true rfl) dX11_dismiss_2) zq1 C Tb X (by decide) (by decide)
  refine t_okv (x_preT C X xv_X11_191 rfl (kX11_needGuild O C.2.2.2.2.1 N x1 S q1 hq1) (Nat.le_of_ble_eq_true rfl) (Nat.le_of_ble_eq_true rfl) (Nat.le_of_ble_eq_true rfl) (Nat.le_of_ble_eq_true rfl) rfl hl.1 rfl (Nat.le_of_ble_eq_true rfl) dX11_dismiss_2) zq1 X (fun H locs X => ?_)
  refine W.widen (k := 1) (n := 6) (by decide) (by decide) ?_
  refine lv_aload_n C.1.1 C.1.2.1 dX11_dismiss_5 rfl (lv_at hl 0 rfl) ?_
  refine xg_X11_19 C O.1.1 X (k := 0) rfl (j := 20) rfl dX11_dismiss_6 ?_
  refine xg_X11_105 C O.1.1 X (k := 20) rfl (j := 21) rfl dX11_dismiss_9 ?_
  refine xg_X11_206 C O.1.1 X (k := 21) rfl (j := 25) rfl dX11_dismiss_12 ?_
  refine lv_iload_n C.1.1 C.1.2.1 dX11_dismiss_15 rfl (lv_at hl 1 rfl) ?_
  obtain ⟨h_1, hF⟩ := chk_some hF
  refine x_rI C X (k := 25) rfl (n := 6) rfl  (inb_vp h_1) rfl dX11_dismiss_16 ?_
  refine lv_istore_n (lv' := [(2, .int (q1.2.2 25 (Int32.toNatClampNeg x1))), (0, .ref (g 0)), (1, .int x1)]) C.1.1 C.1.2.1 dX11_dismiss_17 rfl hl (by decide) rfl (fun ls hl => ?_)
  refine lv_iload_n C.1.1 C.1.2.1 dX11_dismiss_18 rfl (lv_at hl 0 rfl) ?_
  refine lv_iconst (v := (-1)) C.1.1 C.1.2.1 dX11_dismiss_19 (by decide) ?_
  refine lv_icmp_ne (tgt := 32) C.1.1 C.1.2.1 dX11_dismiss_20 (by decide) (fun h_z => ?_) (fun h_z => ?_)
  · rw [if_neg h_z] at hF
    exact bX11_dismiss_32 C O Tb X (lv_sub hl [1, 2, 0] rfl) hF
  · rw [if_pos h_z] at hF
    exact bX11_dismiss_23 C O Tb X (lv_sub hl [1] rfl) hF
noncomputable def fX11_dismiss (N : Nat) (x1 : Int32) (S : gS) : Option (tR) := fX11_dismiss_b0 N x1 S
theorem kX11_dismiss {l : Launch} {D : va_G} {g : Nat → Nat} {cI cB cZ cQ : ClassId} {Am : (Nat → Prop) → State → Heap → Prop} {aK aV : Nat → Nat} (O : tO l g cI cB cZ cQ Am aK aV) (P : gAm Am) (N : Nat) (x1 : Int32) (S : gS) (o : tR) (hF : fX11_dismiss N x1 S = some o) : gN l yX11_dismiss cX11_dismiss 3 ((some .int)) 7 1 D (xtys cI cB cZ cQ) (xcell g cI cB cZ cQ) xord g Am [.ref (g 0), .int x1] S false o :=
  gN_of P (by decide) (Nat.le_of_ble_eq_true rfl) (fun p e s m args below meth c ls C Tb X hl => bX11_dismiss_0 C O Tb X (lv_sub hl [0, 1] rfl) hF)
-- X11.confess
noncomputable def fX11_confess_b33 (N : Nat) (x1 : Int32) (S : gS) : Option (tR) := bnd (fX1_keepAct N 20 S) fun q1 => (chk (inb x1 6) (chk (inb x1 6) (lt (sU q1.2 23 (Int32.toNatClampNeg x1) (((q1.2 23 (Int32.toNatClampNeg x1)) - 50 : Int32))) fun S1 => (chk (inb x1 6) (chk (inb x1 6) (lt (sU S1 22 (Int32.toNatClampNeg x1) (((S1 22 (Int32.toNatClampNeg x1)) / 2 : Int32))) fun S2 => (chk (inb x1 6) (some (0, S2 22 (Int32.toNatClampNeg x1), S2)))))))))
theorem bX11_confess_33 {N : Nat} {x1 : Int32} {S : gS} {H : Heap} {locs : List Loc} {ls : Array Slot} {o : tR} (C : gC p s m args meth c cX11_confess 3 RX11 ((some .int)) D (xtys cI cB cZ cQ) xord g Am) (O : tO l g cI cB cZ cQ Am aK aV) (Tb : ∀ x ∈ c.exceptionTable.toList, False) (X : gX D (xcell g cI cB cZ cQ) xord g S s H locs) (hl : lv_has ls 3 [(0, .ref (g 0)), (1, .int x1), (2, .ref (g 21))]) (hF : fX11_confess_b33 N x1 S = some o) : W p l e (rmx 7 1) s m args below meth c H locs 1 6 (gEX below args s D (xtys cI cB cZ cQ) (xcell g cI cB cZ cQ) xord g 1 false o) (F0 m 33 ls []) := by
  unfold fX11_confess_b33 at hF
  refine lv_aload_n C.1.1 C.1.2.1 dX11_confess_33 rfl (lv_at hl 0 rfl) ?_
  refine xg_X11_19 C O.1.1 X (k := 0) rfl (j := 20) rfl dX11_confess_34 ?_
  obtain ⟨q1, hq1, hF⟩ := bnd_some hF
  refine x_callV C X (k := 20) xv_X11_218 (rfl : xk 20 = 1) rfl rfl (by decide) (kX1_keepAct O.1 C.2.2.2.2.1 N 20 (rfl : xk 20 = 1) S q1 hq1) (Nat.le_of_ble_eq_true rfl) (Nat.le_of_ble_eq_true rfl) (Nat.le_of_ble_eq_true rfl) (Nat.le_of_ble_eq_true rfl) rfl hl.1 rfl (Nat.le_of_ble_eq_true rfl) dX11_confess_37 (fun H locs X => ?_)
  refine lv_aload_n C.1.1 C.1.2.1 dX11_confess_40 rfl (lv_at hl 2 rfl) ?_
  refine xg_X11_200 C O.1.1 X (k := 21) rfl (j := 23) rfl dX11_confess_41 ?_
  refine lv_iload_n C.1.1 C.1.2.1 dX11_confess_44 rfl (lv_at hl 1 rfl) ?_
  refine lv_dup2_11 C.1.1 C.1.2.1 dX11_confess_45 rfl rfl ?_
  obtain ⟨h_1, hF⟩ := chk_some hF
  refine x_rI C X (k := 23) rfl (n := 6) rfl  (inb_vp h_1) rfl dX11_confess_46 ?_
  refine lv_bipush (v := 50) C.1.1 C.1.2.1 dX11_confess_47 (by decide) ?_
  refine lv_isub C.1.1 C.1.2.1 dX11_confess_49 ?_
  obtain ⟨h_2, hF⟩ := chk_some hF
  obtain ⟨S1, eS1, hF⟩ := lt_some hF
  refine x_wI C O.1.1 X (k := 23) rfl (n := 6) rfl  (inb_vp h_2) rfl eS1 dX11_confess_50 (fun H locs X => ?_)
  refine lv_aload_n C.1.1 C.1.2.1 dX11_confess_51 rfl (lv_at hl 2 rfl) ?_
  refine xg_X11_197 C O.1.1 X (k := 21) rfl (j := 22) rfl dX11_confess_52 ?_
  refine lv_iload_n C.1.1 C.1.2.1 dX11_confess_55 rfl (lv_at hl 1 rfl) ?_
  refine lv_dup2_11 C.1.1 C.1.2.1 dX11_confess_56 rfl rfl ?_
  obtain ⟨h_3, hF⟩ := chk_some hF
  refine x_rI C X (k := 22) rfl (n := 6) rfl  (inb_vp h_3) rfl dX11_confess_57 ?_
  refine lv_iconst (v := 2) C.1.1 C.1.2.1 dX11_confess_58 (by decide) ?_
  refine lv_idiv C.1.1 C.1.2.1 dX11_confess_59 (by decide) ?_
  obtain ⟨h_4, hF⟩ := chk_some hF
  obtain ⟨S2, eS2, hF⟩ := lt_some hF
  refine x_wI C O.1.1 X (k := 22) rfl (n := 6) rfl  (inb_vp h_4) rfl eS2 dX11_confess_60 (fun H locs X => ?_)
  refine lv_aload_n C.1.1 C.1.2.1 dX11_confess_61 rfl (lv_at hl 2 rfl) ?_
  refine xg_X11_197 C O.1.1 X (k := 21) rfl (j := 22) rfl dX11_confess_62 ?_
  refine lv_iload_n C.1.1 C.1.2.1 dX11_confess_65 rfl (lv_at hl 1 rfl) ?_
  obtain ⟨h_5, hF⟩ := chk_some hF
  refine x_rI C X (k := 22) rfl (n := 6) rfl  (inb_vp h_5) rfl dX11_confess_66 ?_
  cases hF
  exact t_iret C X (by decide) (by decide) dX11_confess_67
noncomputable def fX11_confess_b24 (N : Nat) (S : gS) : Option (tR) := bnd (fX1_refuse N 20 1 S) fun q1 => (some (0, q1.1, q1.2))
theorem bX11_confess_24 {N : Nat} {S : gS} {H : Heap} {locs : List Loc} {ls : Array Slot} {o : tR} (C : gC p s m args meth c cX11_confess 3 RX11 ((some .int)) D (xtys cI cB cZ cQ) xord g Am) (O : tO l g cI cB cZ cQ Am aK aV) (Tb : ∀ x ∈ c.exceptionTable.toList, False) (X : gX D (xcell g cI cB cZ cQ) xord g S s H locs) (hl : lv_has ls 3 [(0, .ref (g 0))]) (hF : fX11_confess_b24 N S = some o) : W p l e (rmx 7 1) s m args below meth c H locs 1 6 (gEX below args s D (xtys cI cB cZ cQ) (xcell g cI cB cZ cQ) xord g 1 false o) (F0 m 24 ls []) := by
  unfold fX11_confess_b24 at hF
  refine lv_aload_n C.1.1 C.1.2.1 dX11_confess_24 rfl (lv_at hl 0 rfl) ?_
  refine xg_X11_19 C O.1.1 X (k := 0) rfl (j := 20) rfl dX11_confess_25 ?_
  refine lv_iconst (v := 1) C.1.1 C.1.2.1 dX11_confess_28 (by decide) ?_
  obtain ⟨q1, hq1, hF⟩ := bnd_some hF
  refine x_callVi C X (k := 20) xv_X11_93 (rfl : xk 20 = 1) rfl rfl (by decide) (kX1_refuse O.1.1 C.2.2.2.2.1 N 20 1 (rfl : xk 20 = 1) S q1 hq1) (Nat.le_of_ble_eq_true rfl) (Nat.le_of_ble_eq_true rfl) (Nat.le_of_ble_eq_true rfl) (Nat.le_of_ble_eq_true rfl) rfl hl.1 rfl (Nat.le_of_ble_eq_true rfl) dX11_confess_29 (fun H locs X => ?_)
  cases hF
  exact t_iret C X (by decide) (by decide) dX11_confess_32
noncomputable def fX11_confess_b0 (N : Nat) (x1 : Int32) (S : gS) : Option (tR) := bnx (fX11_needGuild N x1 S) fun q1 => (chk (inb x1 6) (if 50 ≤ (q1.2.2 23 (Int32.toNatClampNeg x1)) then fX11_confess_b33 N x1 q1.2.2 else fX11_confess_b24 N q1.2.2))
theorem bX11_confess_0 {N : Nat} {x1 : Int32} {S : gS} {H : Heap} {locs : List Loc} {ls : Array Slot} {o : tR} (C : gC p s m args meth c cX11_confess 3 RX11 ((some .int)) D (xtys cI cB cZ cQ) xord g Am) (O : tO l g cI cB cZ cQ Am aK aV) (Tb : ∀ x ∈ c.exceptionTable.toList, False) (X : gX D (xcell g cI cB cZ cQ) xord g S s H locs) (hl : lv_has ls 3 [(0, .ref (g 0)), (1, .int x1)]) (hF : fX11_confess_b0 N x1 S = some o) : W p l e (rmx 7 1) s m args below meth c H locs 0 0 (gEX below args s D (xtys cI cB cZ cQ) (xcell g cI cB cZ cQ) xord g 1 false o) (F0 m 0 ls []) := by
  unfold fX11_confess_b0 at hF
  refine lv_aload_n C.1.1 C.1.2.1 dX11_confess_0 rfl (lv_at hl 0 rfl) ?_
  refine lv_iload_n C.1.1 C.1.2.1 dX11_confess_1 rfl (lv_at hl 1 rfl) ?_
  rcases (bnx_some hF).symm with ⟨q1, hq1, zq1, eo⟩ | ⟨q1, hq1, zq1, hF⟩
  · subst eo
    exact t_thr (x_preT C X xv_X11_191 rfl (kX11_needGuild O C.2.2.2.2.1 N x1 S q1 hq1) (Nat.le_of_ble_eq_true rfl) (Nat.le_of_ble_eq_true rfl) (Nat.le_of_ble_eq_true rfl) (Nat.le_of_ble_eq_true rfl) rfl hl.1 rfl (Nat.le_of_ble_eq_true rfl) dX11_confess_2) zq1 C Tb X (by decide) (by decide)
  refine t_okv (x_preT C X xv_X11_191 rfl (kX11_needGuild O C.2.2.2.2.1 N x1 S q1 hq1) (Nat.le_of_ble_eq_true rfl) (Nat.le_of_ble_eq_true rfl) (Nat.le_of_ble_eq_true rfl) (Nat.le_of_ble_eq_true rfl) rfl hl.1 rfl (Nat.le_of_ble_eq_true rfl) dX11_confess_2) zq1 X (fun H locs X => ?_)
  refine W.widen (k := 1) (n := 6) (by decide) (by decide) ?_
  refine lv_aload_n C.1.1 C.1.2.1 dX11_confess_5 rfl (lv_at hl 0 rfl) ?_
  refine xg_X11_19 C O.1.1 X (k := 0) rfl (j := 20) rfl dX11_confess_6 ?_
  refine xg_X11_105 C O.1.1 X (k := 20) rfl (j := 21) rfl dX11_confess_9 ?_
  refine lv_astore_n (lv' := [(2, .ref (g 21)), (0, .ref (g 0)), (1, .int x1)]) C.1.1 C.1.2.1 dX11_confess_12 rfl hl (by decide) rfl (fun ls hl => ?_)
  refine lv_aload_n C.1.1 C.1.2.1 dX11_confess_13 rfl (lv_at hl 0 rfl) ?_
  refine xg_X11_200 C O.1.1 X (k := 21) rfl (j := 23) rfl dX11_confess_14 ?_
  refine lv_iload_n C.1.1 C.1.2.1 dX11_confess_17 rfl (lv_at hl 2 rfl) ?_
  obtain ⟨h_1, hF⟩ := chk_some hF
  refine x_rI C X (k := 23) rfl (n := 6) rfl  (inb_vp h_1) rfl dX11_confess_18 ?_
  refine lv_bipush (v := 50) C.1.1 C.1.2.1 dX11_confess_19 (by decide) ?_
  refine lv_icmp_ge (tgt := 33) C.1.1 C.1.2.1 dX11_confess_21 (by decide) (fun h_z => ?_) (fun h_z => ?_)
  · rw [if_pos h_z] at hF
    exact bX11_confess_33 C O Tb X (lv_sub hl [1, 2, 0] rfl) hF
  · rw [if_neg h_z] at hF
    exact bX11_confess_24 C O Tb X (lv_sub hl [1] rfl) hF
noncomputable def fX11_confess (N : Nat) (x1 : Int32) (S : gS) : Option (tR) := fX11_confess_b0 N x1 S
theorem kX11_confess {l : Launch} {D : va_G} {g : Nat → Nat} {cI cB cZ cQ : ClassId} {Am : (Nat → Prop) → State → Heap → Prop} {aK aV : Nat → Nat} (O : tO l g cI cB cZ cQ Am aK aV) (P : gAm Am) (N : Nat) (x1 : Int32) (S : gS) (o : tR) (hF : fX11_confess N x1 S = some o) : gN l yX11_confess cX11_confess 3 ((some .int)) 7 1 D (xtys cI cB cZ cQ) (xcell g cI cB cZ cQ) xord g Am [.ref (g 0), .int x1] S false o :=
  gN_of P (by decide) (Nat.le_of_ble_eq_true rfl) (fun p e s m args below meth c ls C Tb X hl => bX11_confess_0 C O Tb X (lv_sub hl [0, 1] rfl) hF)
-- X11.drain
noncomputable def fX11_drain_b31 (N : Nat) (x1 : Int32) (S : gS) : Option (tR) := bnd (fX1_keepAct N 20 S) fun q1 => (bnd (fX7_turn N 21 x1 q1.2) fun q2 => (some (0, 1, q2.2)))
theorem bX11_drain_31 {N : Nat} {x1 : Int32} {S : gS} {H : Heap} {locs : List Loc} {ls : Array Slot} {o : tR} (C : gC p s m args meth c cX11_drain 3 RX11 ((some .boolean)) D (xtys cI cB cZ cQ) xord g Am) (O : tO l g cI cB cZ cQ Am aK aV) (Tb : ∀ x ∈ c.exceptionTable.toList, False) (X : gX D (xcell g cI cB cZ cQ) xord g S s H locs) (hl : lv_has ls 3 [(0, .ref (g 0)), (1, .int x1)]) (hF : fX11_drain_b31 N x1 S = some o) : W p l e (rmx 7 1) s m args below meth c H locs 1 6 (gEX below args s D (xtys cI cB cZ cQ) (xcell g cI cB cZ cQ) xord g 1 false o) (F0 m 31 ls []) := by
  unfold fX11_drain_b31 at hF
  refine lv_aload_n C.1.1 C.1.2.1 dX11_drain_31 rfl (lv_at hl 0 rfl) ?_
  refine xg_X11_19 C O.1.1 X (k := 0) rfl (j := 20) rfl dX11_drain_32 ?_
  obtain ⟨q1, hq1, hF⟩ := bnd_some hF
  refine x_callV C X (k := 20) xv_X11_218 (rfl : xk 20 = 1) rfl rfl (by decide) (kX1_keepAct O.1 C.2.2.2.2.1 N 20 (rfl : xk 20 = 1) S q1 hq1) (Nat.le_of_ble_eq_true rfl) (Nat.le_of_ble_eq_true rfl) (Nat.le_of_ble_eq_true rfl) (Nat.le_of_ble_eq_true rfl) rfl hl.1 rfl (Nat.le_of_ble_eq_true rfl) dX11_drain_35 (fun H locs X => ?_)
  refine lv_aload_n C.1.1 C.1.2.1 dX11_drain_38 rfl (lv_at hl 0 rfl) ?_
  refine xg_X11_19 C O.1.1 X (k := 0) rfl (j := 20) rfl dX11_drain_39 ?_
  refine xg_X11_105 C O.1.1 X (k := 20) rfl (j := 21) rfl dX11_drain_42 ?_
  refine lv_iload_n C.1.1 C.1.2.1 dX11_drain_45 rfl (lv_at hl 1 rfl) ?_
  obtain ⟨q2, hq2, hF⟩ := bnd_some hF
  refine x_callV C X (k := 21) xv_X11_225 (rfl : xk 21 = 7) rfl rfl (by decide) (kX7_turn O.1.1 C.2.2.2.2.1 N 21 x1 (rfl : xk 21 = 7) q1.2 q2 hq2) (Nat.le_of_ble_eq_true rfl) (Nat.le_of_ble_eq_true rfl) (Nat.le_of_ble_eq_true rfl) (Nat.le_of_ble_eq_true rfl) rfl hl.1 rfl (Nat.le_of_ble_eq_true rfl) dX11_drain_46 (fun H locs X => ?_)
  refine lv_iconst (v := 1) C.1.1 C.1.2.1 dX11_drain_49 (by decide) ?_
  cases hF
  exact t_zret (x := 1) C X (by decide) (by decide) (by decide) dX11_drain_50
noncomputable def fX11_drain_b20 (N : Nat) (S : gS) : Option (tR) := bnd (fX1_refuse N 20 1 S) fun q1 => (some (0, 0, q1.2))
theorem bX11_drain_20 {N : Nat} {S : gS} {H : Heap} {locs : List Loc} {ls : Array Slot} {o : tR} (C : gC p s m args meth c cX11_drain 3 RX11 ((some .boolean)) D (xtys cI cB cZ cQ) xord g Am) (O : tO l g cI cB cZ cQ Am aK aV) (Tb : ∀ x ∈ c.exceptionTable.toList, False) (X : gX D (xcell g cI cB cZ cQ) xord g S s H locs) (hl : lv_has ls 3 [(0, .ref (g 0))]) (hF : fX11_drain_b20 N S = some o) : W p l e (rmx 7 1) s m args below meth c H locs 1 6 (gEX below args s D (xtys cI cB cZ cQ) (xcell g cI cB cZ cQ) xord g 1 false o) (F0 m 20 ls []) := by
  unfold fX11_drain_b20 at hF
  refine lv_aload_n C.1.1 C.1.2.1 dX11_drain_20 rfl (lv_at hl 0 rfl) ?_
  refine xg_X11_19 C O.1.1 X (k := 0) rfl (j := 20) rfl dX11_drain_21 ?_
  refine lv_iconst (v := 1) C.1.1 C.1.2.1 dX11_drain_24 (by decide) ?_
  obtain ⟨q1, hq1, hF⟩ := bnd_some hF
  refine x_callVi C X (k := 20) xv_X11_93 (rfl : xk 20 = 1) rfl rfl (by decide) (kX1_refuse O.1.1 C.2.2.2.2.1 N 20 1 (rfl : xk 20 = 1) S q1 hq1) (Nat.le_of_ble_eq_true rfl) (Nat.le_of_ble_eq_true rfl) (Nat.le_of_ble_eq_true rfl) (Nat.le_of_ble_eq_true rfl) rfl hl.1 rfl (Nat.le_of_ble_eq_true rfl) dX11_drain_25 (fun H locs X => ?_)
  refine lv_pop C.1.1 C.1.2.1 dX11_drain_28 rfl ?_
  refine lv_iconst (v := 0) C.1.1 C.1.2.1 dX11_drain_29 (by decide) ?_
  cases hF
  exact t_zret (x := 0) C X (by decide) (by decide) (by decide) dX11_drain_30
noncomputable def fX11_drain_b0 (N : Nat) (x1 : Int32) (x2 : Int32) (S : gS) : Option (tR) := bnx (fX11_needGrotto N x1 S) fun q1 => (bnd (fX7_isDrained N 21 x1 q1.2.2) fun q2 => (if q2.1 = x2 then fX11_drain_b20 N q2.2 else fX11_drain_b31 N x1 q2.2))
theorem bX11_drain_0 {N : Nat} {x1 : Int32} {x2 : Int32} {S : gS} {H : Heap} {locs : List Loc} {ls : Array Slot} {o : tR} (C : gC p s m args meth c cX11_drain 3 RX11 ((some .boolean)) D (xtys cI cB cZ cQ) xord g Am) (O : tO l g cI cB cZ cQ Am aK aV) (Tb : ∀ x ∈ c.exceptionTable.toList, False) (X : gX D (xcell g cI cB cZ cQ) xord g S s H locs) (hl : lv_has ls 3 [(0, .ref (g 0)), (1, .int x1), (2, .int x2)]) (hF : fX11_drain_b0 N x1 x2 S = some o) : W p l e (rmx 7 1) s m args below meth c H locs 0 0 (gEX below args s D (xtys cI cB cZ cQ) (xcell g cI cB cZ cQ) xord g 1 false o) (F0 m 0 ls []) := by
  unfold fX11_drain_b0 at hF
  refine lv_aload_n C.1.1 C.1.2.1 dX11_drain_0 rfl (lv_at hl 0 rfl) ?_
  refine lv_iload_n C.1.1 C.1.2.1 dX11_drain_1 rfl (lv_at hl 1 rfl) ?_
  rcases (bnx_some hF).symm with ⟨q1, hq1, zq1, eo⟩ | ⟨q1, hq1, zq1, hF⟩
  · subst eo
    exact t_thr (x_preT C X xv_X11_162 rfl (kX11_needGrotto O C.2.2.2.2.1 N x1 S q1 hq1) (Nat.le_of_ble_eq_true rfl) (Nat.le_of_ble_eq_true rfl) (Nat.le_of_ble_eq_true rfl) (Nat.le_of_ble_eq_true rfl) rfl hl.1 rfl (Nat.le_of_ble_eq_true rfl) dX11_drain_2) zq1 C Tb X (by decide) (by decide)
  refine t_okv (x_preT C X xv_X11_162 rfl (kX11_needGrotto O C.2.2.2.2.1 N x1 S q1 hq1) (Nat.le_of_ble_eq_true rfl) (Nat.le_of_ble_eq_true rfl) (Nat.le_of_ble_eq_true rfl) (Nat.le_of_ble_eq_true rfl) rfl hl.1 rfl (Nat.le_of_ble_eq_true rfl) dX11_drain_2) zq1 X (fun H locs X => ?_)
  refine W.widen (k := 1) (n := 6) (by decide) (by decide) ?_
  refine lv_aload_n C.1.1 C.1.2.1 dX11_drain_5 rfl (lv_at hl 0 rfl) ?_
  refine xg_X11_19 C O.1.1 X (k := 0) rfl (j := 20) rfl dX11_drain_6 ?_
  refine xg_X11_105 C O.1.1 X (k := 20) rfl (j := 21) rfl dX11_drain_9 ?_
  refine lv_iload_n C.1.1 C.1.2.1 dX11_drain_12 rfl (lv_at hl 1 rfl) ?_
  obtain ⟨q2, hq2, hF⟩ := bnd_some hF
  refine x_callVi C X (k := 21) xv_X11_178 (rfl : xk 21 = 7) rfl rfl (by decide) (kX7_isDrained O.1.1 C.2.2.2.2.1 N 21 x1 (rfl : xk 21 = 7) q1.2.2 q2 hq2) (Nat.le_of_ble_eq_true rfl) (Nat.le_of_ble_eq_true rfl) (Nat.le_of_ble_eq_true rfl) (Nat.le_of_ble_eq_true rfl) rfl hl.1 rfl (Nat.le_of_ble_eq_true rfl) dX11_drain_13 (fun H locs X => ?_)
  refine lv_iload_n C.1.1 C.1.2.1 dX11_drain_16 rfl (lv_at hl 2 rfl) ?_
  refine lv_icmp_ne (tgt := 31) C.1.1 C.1.2.1 dX11_drain_17 (by decide) (fun h_z => ?_) (fun h_z => ?_)
  · rw [if_neg h_z] at hF
    exact bX11_drain_31 C O Tb X (lv_sub hl [0, 1] rfl) hF
  · rw [if_pos h_z] at hF
    exact bX11_drain_20 C O Tb X (lv_sub hl [0] rfl) hF
noncomputable def fX11_drain (N : Nat) (x1 : Int32) (x2 : Int32) (S : gS) : Option (tR) := fX11_drain_b0 N x1 x2 S
theorem kX11_drain {l : Launch} {D : va_G} {g : Nat → Nat} {cI cB cZ cQ : ClassId} {Am : (Nat → Prop) → State → Heap → Prop} {aK aV : Nat → Nat} (O : tO l g cI cB cZ cQ Am aK aV) (P : gAm Am) (N : Nat) (x1 : Int32) (x2 : Int32) (S : gS) (o : tR) (hF : fX11_drain N x1 x2 S = some o) : gN l yX11_drain cX11_drain 3 ((some .boolean)) 7 1 D (xtys cI cB cZ cQ) (xcell g cI cB cZ cQ) xord g Am [.ref (g 0), .int x1, .int x2] S false o :=
  gN_of P (by decide) (Nat.le_of_ble_eq_true rfl) (fun p e s m args below meth c ls C Tb X hl => bX11_drain_0 C O Tb X (lv_sub hl [0, 1, 2] rfl) hF)
-- X11.give
noncomputable def fX11_give_b24 (N : Nat) (x1 : Int32) (x2 : Int32) (S : gS) : Option (tR) := bnd (fX1_keepAct N 20 S) fun q1 => (bnd (fX7_enrich N 21 x1 x2 q1.2) fun q2 => (chk (inb x1 6) (some (0, q2.2 23 (Int32.toNatClampNeg x1), q2.2))))
theorem bX11_give_24 {N : Nat} {x1 : Int32} {x2 : Int32} {S : gS} {H : Heap} {locs : List Loc} {ls : Array Slot} {o : tR} (C : gC p s m args meth c cX11_give 3 RX11 ((some .int)) D (xtys cI cB cZ cQ) xord g Am) (O : tO l g cI cB cZ cQ Am aK aV) (Tb : ∀ x ∈ c.exceptionTable.toList, False) (X : gX D (xcell g cI cB cZ cQ) xord g S s H locs) (hl : lv_has ls 3 [(0, .ref (g 0)), (1, .int x1), (2, .int x2)]) (hF : fX11_give_b24 N x1 x2 S = some o) : W p l e (rmx 7 1) s m args below meth c H locs 1 6 (gEX below args s D (xtys cI cB cZ cQ) (xcell g cI cB cZ cQ) xord g 1 false o) (F0 m 24 ls []) := by
  unfold fX11_give_b24 at hF
  refine lv_aload_n C.1.1 C.1.2.1 dX11_give_24 rfl (lv_at hl 0 rfl) ?_
  refine xg_X11_19 C O.1.1 X (k := 0) rfl (j := 20) rfl dX11_give_25 ?_
  obtain ⟨q1, hq1, hF⟩ := bnd_some hF
  refine x_callV C X (k := 20) xv_X11_218 (rfl : xk 20 = 1) rfl rfl (by decide) (kX1_keepAct O.1 C.2.2.2.2.1 N 20 (rfl : xk 20 = 1) S q1 hq1) (Nat.le_of_ble_eq_true rfl) (Nat.le_of_ble_eq_true rfl) (Nat.le_of_ble_eq_true rfl) (Nat.le_of_ble_eq_true rfl) rfl hl.1 rfl (Nat.le_of_ble_eq_true rfl) dX11_give_28 (fun H locs X => ?_)
  refine lv_aload_n C.1.1 C.1.2.1 dX11_give_31 rfl (lv_at hl 0 rfl) ?_
  refine xg_X11_19 C O.1.1 X (k := 0) rfl (j := 20) rfl dX11_give_32 ?_
  refine xg_X11_105 C O.1.1 X (k := 20) rfl (j := 21) rfl dX11_give_35 ?_
  refine lv_iload_n C.1.1 C.1.2.1 dX11_give_38 rfl (lv_at hl 1 rfl) ?_
  refine lv_iload_n C.1.1 C.1.2.1 dX11_give_39 rfl (lv_at hl 2 rfl) ?_
  obtain ⟨q2, hq2, hF⟩ := bnd_some hF
  refine x_callV C X (k := 21) xv_X11_228 (rfl : xk 21 = 7) rfl rfl (by decide) (kX7_enrich O.1.1 C.2.2.2.2.1 N 21 x1 x2 (rfl : xk 21 = 7) q1.2 q2 hq2) (Nat.le_of_ble_eq_true rfl) (Nat.le_of_ble_eq_true rfl) (Nat.le_of_ble_eq_true rfl) (Nat.le_of_ble_eq_true rfl) rfl hl.1 rfl (Nat.le_of_ble_eq_true rfl) dX11_give_40 (fun H locs X => ?_)
  refine lv_aload_n C.1.1 C.1.2.1 dX11_give_43 rfl (lv_at hl 0 rfl) ?_
  refine xg_X11_19 C O.1.1 X (k := 0) rfl (j := 20) rfl dX11_give_44 ?_
  refine xg_X11_105 C O.1.1 X (k := 20) rfl (j := 21) rfl dX11_give_47 ?_
  refine xg_X11_200 C O.1.1 X (k := 21) rfl (j := 23) rfl dX11_give_50 ?_
  refine lv_iload_n C.1.1 C.1.2.1 dX11_give_53 rfl (lv_at hl 1 rfl) ?_
  obtain ⟨h_1, hF⟩ := chk_some hF
  refine x_rI C X (k := 23) rfl (n := 6) rfl  (inb_vp h_1) rfl dX11_give_54 ?_
  cases hF
  exact t_iret C X (by decide) (by decide) dX11_give_55
noncomputable def fX11_give_b15 (N : Nat) (S : gS) : Option (tR) := bnd (fX1_refuse N 20 1 S) fun q1 => (some (0, q1.1, q1.2))
theorem bX11_give_15 {N : Nat} {S : gS} {H : Heap} {locs : List Loc} {ls : Array Slot} {o : tR} (C : gC p s m args meth c cX11_give 3 RX11 ((some .int)) D (xtys cI cB cZ cQ) xord g Am) (O : tO l g cI cB cZ cQ Am aK aV) (Tb : ∀ x ∈ c.exceptionTable.toList, False) (X : gX D (xcell g cI cB cZ cQ) xord g S s H locs) (hl : lv_has ls 3 [(0, .ref (g 0))]) (hF : fX11_give_b15 N S = some o) : W p l e (rmx 7 1) s m args below meth c H locs 1 6 (gEX below args s D (xtys cI cB cZ cQ) (xcell g cI cB cZ cQ) xord g 1 false o) (F0 m 15 ls []) := by
  unfold fX11_give_b15 at hF
  refine lv_aload_n C.1.1 C.1.2.1 dX11_give_15 rfl (lv_at hl 0 rfl) ?_
  refine xg_X11_19 C O.1.1 X (k := 0) rfl (j := 20) rfl dX11_give_16 ?_
  refine lv_iconst (v := 1) C.1.1 C.1.2.1 dX11_give_19 (by decide) ?_
  obtain ⟨q1, hq1, hF⟩ := bnd_some hF
  refine x_callVi C X (k := 20) xv_X11_93 (rfl : xk 20 = 1) rfl rfl (by decide) (kX1_refuse O.1.1 C.2.2.2.2.1 N 20 1 (rfl : xk 20 = 1) S q1 hq1) (Nat.le_of_ble_eq_true rfl) (Nat.le_of_ble_eq_true rfl) (Nat.le_of_ble_eq_true rfl) (Nat.le_of_ble_eq_true rfl) rfl hl.1 rfl (Nat.le_of_ble_eq_true rfl) dX11_give_20 (fun H locs X => ?_)
  cases hF
  exact t_iret C X (by decide) (by decide) dX11_give_23
noncomputable def fX11_give_b0 (N : Nat) (x1 : Int32) (x2 : Int32) (S : gS) : Option (tR) := bnx (fX11_needGuild N x1 S) fun q1 => (bnd (fX11_isWithin N x2 1 100 q1.2.2) fun q2 => (if q2.1 = 0 then fX11_give_b15 N q2.2 else fX11_give_b24 N x1 x2 q2.2))
theorem bX11_give_0 {N : Nat} {x1 : Int32} {x2 : Int32} {S : gS} {H : Heap} {locs : List Loc} {ls : Array Slot} {o : tR} (C : gC p s m args meth c cX11_give 3 RX11 ((some .int)) D (xtys cI cB cZ cQ) xord g Am) (O : tO l g cI cB cZ cQ Am aK aV) (Tb : ∀ x ∈ c.exceptionTable.toList, False) (X : gX D (xcell g cI cB cZ cQ) xord g S s H locs) (hl : lv_has ls 3 [(0, .ref (g 0)), (1, .int x1), (2, .int x2)]) (hF : fX11_give_b0 N x1 x2 S = some o) : W p l e (rmx 7 1) s m args below meth c H locs 0 0 (gEX below args s D (xtys cI cB cZ cQ) (xcell g cI cB cZ cQ) xord g 1 false o) (F0 m 0 ls []) := by
  unfold fX11_give_b0 at hF
  refine lv_aload_n C.1.1 C.1.2.1 dX11_give_0 rfl (lv_at hl 0 rfl) ?_
  refine lv_iload_n C.1.1 C.1.2.1 dX11_give_1 rfl (lv_at hl 1 rfl) ?_
  rcases (bnx_some hF).symm with ⟨q1, hq1, zq1, eo⟩ | ⟨q1, hq1, zq1, hF⟩
  · subst eo
    exact t_thr (x_preT C X xv_X11_191 rfl (kX11_needGuild O C.2.2.2.2.1 N x1 S q1 hq1) (Nat.le_of_ble_eq_true rfl) (Nat.le_of_ble_eq_true rfl) (Nat.le_of_ble_eq_true rfl) (Nat.le_of_ble_eq_true rfl) rfl hl.1 rfl (Nat.le_of_ble_eq_true rfl) dX11_give_2) zq1 C Tb X (by decide) (by decide)
  refine t_okv (x_preT C X xv_X11_191 rfl (kX11_needGuild O C.2.2.2.2.1 N x1 S q1 hq1) (Nat.le_of_ble_eq_true rfl) (Nat.le_of_ble_eq_true rfl) (Nat.le_of_ble_eq_true rfl) (Nat.le_of_ble_eq_true rfl) rfl hl.1 rfl (Nat.le_of_ble_eq_true rfl) dX11_give_2) zq1 X (fun H locs X => ?_)
  refine W.widen (k := 1) (n := 6) (by decide) (by decide) ?_
  refine lv_iload_n C.1.1 C.1.2.1 dX11_give_5 rfl (lv_at hl 2 rfl) ?_
  refine lv_iconst (v := 1) C.1.1 C.1.2.1 dX11_give_6 (by decide) ?_
  refine lv_bipush (v := 100) C.1.1 C.1.2.1 dX11_give_7 (by decide) ?_
  obtain ⟨q2, hq2, hF⟩ := bnd_some hF
  refine g_callSi C X xv_X11_214 (kX11_isWithin O.1.1 C.2.2.2.2.1 N x2 1 100 q1.2.2 q2 hq2) (Nat.le_of_ble_eq_true rfl) (Nat.le_of_ble_eq_true rfl) (Nat.le_of_ble_eq_true rfl) (Nat.le_of_ble_eq_true rfl) rfl hl.1 rfl (Nat.le_of_ble_eq_true rfl) dX11_give_9 (fun H locs X => ?_)
  refine lv_if_ne (tgt := 24) C.1.1 C.1.2.1 dX11_give_12 (by decide) (fun h_z => ?_) (fun h_z => ?_)
  · rw [if_neg h_z] at hF
    exact bX11_give_24 C O Tb X (lv_sub hl [0, 1, 2] rfl) hF
  · rw [if_pos h_z] at hF
    exact bX11_give_15 C O Tb X (lv_sub hl [0] rfl) hF
noncomputable def fX11_give (N : Nat) (x1 : Int32) (x2 : Int32) (S : gS) : Option (tR) := fX11_give_b0 N x1 x2 S
theorem kX11_give {l : Launch} {D : va_G} {g : Nat → Nat} {cI cB cZ cQ : ClassId} {Am : (Nat → Prop) → State → Heap → Prop} {aK aV : Nat → Nat} (O : tO l g cI cB cZ cQ Am aK aV) (P : gAm Am) (N : Nat) (x1 : Int32) (x2 : Int32) (S : gS) (o : tR) (hF : fX11_give N x1 x2 S = some o) : gN l yX11_give cX11_give 3 ((some .int)) 7 1 D (xtys cI cB cZ cQ) (xcell g cI cB cZ cQ) xord g Am [.ref (g 0), .int x1, .int x2] S false o :=
  gN_of P (by decide) (Nat.le_of_ble_eq_true rfl) (fun p e s m args below meth c ls C Tb X hl => bX11_give_0 C O Tb X (lv_sub hl [0, 1, 2] rfl) hF)
-- X11.then
noncomputable def fX11_then_b100 (N : Nat) (S : gS) : Option (tR) := some (0, S 51 4, S)
theorem bX11_then_100 {N : Nat} {S : gS} {H : Heap} {locs : List Loc} {ls : Array Slot} {o : tR} (C : gC p s m args meth c cX11_then 4 RX11 ((some .int)) D (xtys cI cB cZ cQ) xord g Am) (O : tO l g cI cB cZ cQ Am aK aV) (Tb : ∀ x ∈ c.exceptionTable.toList, False) (X : gX D (xcell g cI cB cZ cQ) xord g S s H locs) (hl : lv_has ls 4 [(0, .ref (g 0))]) (hF : fX11_then_b100 N S = some o) : W p l e (rmx 7 3) s m args below meth c H locs 3 18 (gEX below args s D (xtys cI cB cZ cQ) (xcell g cI cB cZ cQ) xord g 3 false o) (F0 m 100 ls []) := by
  unfold fX11_then_b100 at hF
  refine lv_aload_n C.1.1 C.1.2.1 dX11_then_100 rfl (lv_at hl 0 rfl) ?_
  refine xg_X11_36 C O.1.1 X (k := 0) rfl (j := 51) rfl dX11_then_101 ?_
  refine xg_X11_256 C O.1.1 X (k := 51) rfl dX11_then_104 ?_
  cases hF
  exact t_iret C X (by decide) (by decide) dX11_then_107
noncomputable def fX11_then_b92 (N : Nat) (S : gS) : Option (tR) := some (0, S 51 3, S)
theorem bX11_then_92 {N : Nat} {S : gS} {H : Heap} {locs : List Loc} {ls : Array Slot} {o : tR} (C : gC p s m args meth c cX11_then 4 RX11 ((some .int)) D (xtys cI cB cZ cQ) xord g Am) (O : tO l g cI cB cZ cQ Am aK aV) (Tb : ∀ x ∈ c.exceptionTable.toList, False) (X : gX D (xcell g cI cB cZ cQ) xord g S s H locs) (hl : lv_has ls 4 [(0, .ref (g 0))]) (hF : fX11_then_b92 N S = some o) : W p l e (rmx 7 3) s m args below meth c H locs 3 18 (gEX below args s D (xtys cI cB cZ cQ) (xcell g cI cB cZ cQ) xord g 3 false o) (F0 m 92 ls []) := by
  unfold fX11_then_b92 at hF
  refine lv_aload_n C.1.1 C.1.2.1 dX11_then_92 rfl (lv_at hl 0 rfl) ?_
  refine xg_X11_36 C O.1.1 X (k := 0) rfl (j := 51) rfl dX11_then_93 ?_
  refine xg_X11_254 C O.1.1 X (k := 51) rfl dX11_then_96 ?_
  cases hF
  exact t_iret C X (by decide) (by decide) dX11_then_99
noncomputable def fX11_then_b84 (N : Nat) (S : gS) : Option (tR) := some (0, S 51 2, S)
theorem bX11_then_84 {N : Nat} {S : gS} {H : Heap} {locs : List Loc} {ls : Array Slot} {o : tR} (C : gC p s m args meth c cX11_then 4 RX11 ((some .int)) D (xtys cI cB cZ cQ) xord g Am) (O : tO l g cI cB cZ cQ Am aK aV) (Tb : ∀ x ∈ c.exceptionTable.toList, False) (X : gX D (xcell g cI cB cZ cQ) xord g S s H locs) (hl : lv_has ls 4 [(0, .ref (g 0))]) (hF : fX11_then_b84 N S = some o) : W p l e (rmx 7 3) s m args below meth c H locs 3 18 (gEX below args s D (xtys cI cB cZ cQ) (xcell g cI cB cZ cQ) xord g 3 false o) (F0 m 84 ls []) := by
  unfold fX11_then_b84 at hF
  refine lv_aload_n C.1.1 C.1.2.1 dX11_then_84 rfl (lv_at hl 0 rfl) ?_
  refine xg_X11_36 C O.1.1 X (k := 0) rfl (j := 51) rfl dX11_then_85 ?_
  refine xg_X11_252 C O.1.1 X (k := 51) rfl dX11_then_88 ?_
  cases hF
  exact t_iret C X (by decide) (by decide) dX11_then_91
noncomputable def fX11_then_b76 (N : Nat) (S : gS) : Option (tR) := some (0, S 51 1, S)
theorem bX11_then_76 {N : Nat} {S : gS} {H : Heap} {locs : List Loc} {ls : Array Slot} {o : tR} (C : gC p s m args meth c cX11_then 4 RX11 ((some .int)) D (xtys cI cB cZ cQ) xord g Am) (O : tO l g cI cB cZ cQ Am aK aV) (Tb : ∀ x ∈ c.exceptionTable.toList, False) (X : gX D (xcell g cI cB cZ cQ) xord g S s H locs) (hl : lv_has ls 4 [(0, .ref (g 0))]) (hF : fX11_then_b76 N S = some o) : W p l e (rmx 7 3) s m args below meth c H locs 3 18 (gEX below args s D (xtys cI cB cZ cQ) (xcell g cI cB cZ cQ) xord g 3 false o) (F0 m 76 ls []) := by
  unfold fX11_then_b76 at hF
  refine lv_aload_n C.1.1 C.1.2.1 dX11_then_76 rfl (lv_at hl 0 rfl) ?_
  refine xg_X11_36 C O.1.1 X (k := 0) rfl (j := 51) rfl dX11_then_77 ?_
  refine xg_X11_250 C O.1.1 X (k := 51) rfl dX11_then_80 ?_
  cases hF
  exact t_iret C X (by decide) (by decide) dX11_then_83
noncomputable def fX11_then_b0 (N : Nat) (x1 : Int32) (x2 : Int32) (x3 : Int32) (S : gS) : Option (tR) := bnx (fX11_needGuild N x1 S) fun q1 => (bnx (fX11_needWhat N x3 3 q1.2.2) fun q2 => (bnx (fX11_needWithin N x2 0 60 q2.2.2) fun q3 => (lt (xtw q3.2.2) fun T1 => (bnd (fX10_begin N T1 21 x1 q3.2.2) fun q4 => (lt (xtw q4.2) fun T2 => (bnd (fX10_passHours N T2 x2 q4.2) fun q5 => (if x3 = 0 then fX11_then_b76 N q5.2 else if x3 = 1 then fX11_then_b84 N q5.2 else if x3 = 2 then fX11_then_b92 N q5.2 else fX11_then_b100 N q5.2)))))))
theorem bX11_then_0 {N : Nat} {x1 : Int32} {x2 : Int32} {x3 : Int32} {S : gS} {H : Heap} {locs : List Loc} {ls : Array Slot} {o : tR} (C : gC p s m args meth c cX11_then 4 RX11 ((some .int)) D (xtys cI cB cZ cQ) xord g Am) (O : tO l g cI cB cZ cQ Am aK aV) (Tb : ∀ x ∈ c.exceptionTable.toList, False) (X : gX D (xcell g cI cB cZ cQ) xord g S s H locs) (hl : lv_has ls 4 [(0, .ref (g 0)), (1, .int x1), (2, .int x2), (3, .int x3)]) (hF : fX11_then_b0 N x1 x2 x3 S = some o) : W p l e (rmx 7 3) s m args below meth c H locs 0 0 (gEX below args s D (xtys cI cB cZ cQ) (xcell g cI cB cZ cQ) xord g 3 false o) (F0 m 0 ls []) := by
  unfold fX11_then_b0 at hF
  refine lv_aload_n C.1.1 C.1.2.1 dX11_then_0 rfl (lv_at hl 0 rfl) ?_
  refine lv_iload_n C.1.1 C.1.2.1 dX11_then_1 rfl (lv_at hl 1 rfl) ?_
  rcases (bnx_some hF).symm with ⟨q1, hq1, zq1, eo⟩ | ⟨q1, hq1, zq1, hF⟩
  · subst eo
    exact t_thr (x_preT C X xv_X11_191 rfl (kX11_needGuild O C.2.2.2.2.1 N x1 S q1 hq1) (Nat.le_of_ble_eq_true rfl) (Nat.le_of_ble_eq_true rfl) (Nat.le_of_ble_eq_true rfl) (Nat.le_of_ble_eq_true rfl) rfl hl.1 rfl (Nat.le_of_ble_eq_true rfl) dX11_then_2) zq1 C Tb X (by decide) (by decide)
  refine t_okv (x_preT C X xv_X11_191 rfl (kX11_needGuild O C.2.2.2.2.1 N x1 S q1 hq1) (Nat.le_of_ble_eq_true rfl) (Nat.le_of_ble_eq_true rfl) (Nat.le_of_ble_eq_true rfl) (Nat.le_of_ble_eq_true rfl) rfl hl.1 rfl (Nat.le_of_ble_eq_true rfl) dX11_then_2) zq1 X (fun H locs X => ?_)
  refine W.widen (k := 1) (n := 6) (by decide) (by decide) ?_
  refine lv_iload_n C.1.1 C.1.2.1 dX11_then_5 rfl (lv_at hl 3 rfl) ?_
  refine lv_iconst (v := 3) C.1.1 C.1.2.1 dX11_then_6 (by decide) ?_
  rcases (bnx_some hF).symm with ⟨q2, hq2, zq2, eo⟩ | ⟨q2, hq2, zq2, hF⟩
  · subst eo
    exact t_thr (t_preS C X xv_X11_236 (kX11_needWhat O C.2.2.2.2.1 N x3 3 q1.2.2 q2 hq2) (Nat.le_of_ble_eq_true rfl) (Nat.le_of_ble_eq_true rfl) (Nat.le_of_ble_eq_true rfl) (Nat.le_of_ble_eq_true rfl) rfl hl.1 rfl (Nat.le_of_ble_eq_true rfl) dX11_then_7) zq2 C Tb X (by decide) (by decide)
  refine t_okv (t_preS C X xv_X11_236 (kX11_needWhat O C.2.2.2.2.1 N x3 3 q1.2.2 q2 hq2) (Nat.le_of_ble_eq_true rfl) (Nat.le_of_ble_eq_true rfl) (Nat.le_of_ble_eq_true rfl) (Nat.le_of_ble_eq_true rfl) rfl hl.1 rfl (Nat.le_of_ble_eq_true rfl) dX11_then_7) zq2 X (fun H locs X => ?_)
  refine W.widen (k := 2) (n := 12) (by decide) (by decide) ?_
  refine lv_iload_n C.1.1 C.1.2.1 dX11_then_10 rfl (lv_at hl 2 rfl) ?_
  refine lv_iconst (v := 0) C.1.1 C.1.2.1 dX11_then_11 (by decide) ?_
  refine lv_bipush (v := 60) C.1.1 C.1.2.1 dX11_then_12 (by decide) ?_
  rcases (bnx_some hF).symm with ⟨q3, hq3, zq3, eo⟩ | ⟨q3, hq3, zq3, hF⟩
  · subst eo
    exact t_thr (t_preS C X xv_X11_239 (kX11_needWithin O C.2.2.2.2.1 N x2 0 60 q2.2.2 q3 hq3) (Nat.le_of_ble_eq_true rfl) (Nat.le_of_ble_eq_true rfl) (Nat.le_of_ble_eq_true rfl) (Nat.le_of_ble_eq_true rfl) rfl hl.1 rfl (Nat.le_of_ble_eq_true rfl) dX11_then_14) zq3 C Tb X (by decide) (by decide)
  refine t_okv (t_preS C X xv_X11_239 (kX11_needWithin O C.2.2.2.2.1 N x2 0 60 q2.2.2 q3 hq3) (Nat.le_of_ble_eq_true rfl) (Nat.le_of_ble_eq_true rfl) (Nat.le_of_ble_eq_true rfl) (Nat.le_of_ble_eq_true rfl) rfl hl.1 rfl (Nat.le_of_ble_eq_true rfl) dX11_then_14) zq3 X (fun H locs X => ?_)
  refine W.widen (k := 3) (n := 18) (by decide) (by decide) ?_
  refine lv_aload_n C.1.1 C.1.2.1 dX11_then_17 rfl (lv_at hl 0 rfl) ?_
  refine xg_X11_36 C O.1.1 X (k := 0) rfl (j := 51) rfl dX11_then_18 ?_
  refine lv_aload_n C.1.1 C.1.2.1 dX11_then_21 rfl (lv_at hl 0 rfl) ?_
  obtain ⟨T1, eT1, hF⟩ := lt_some hF
  have hk_T1 := xtw_k eT1
  refine xg_X11_57 C O.1.1 X (T := T1) eT1 (k := 0) rfl dX11_then_22 ?_
  refine lv_aload_n C.1.1 C.1.2.1 dX11_then_25 rfl (lv_at hl 0 rfl) ?_
  refine xg_X11_19 C O.1.1 X (k := 0) rfl (j := 20) rfl dX11_then_26 ?_
  refine xg_X11_105 C O.1.1 X (k := 20) rfl (j := 21) rfl dX11_then_29 ?_
  refine lv_iload_n C.1.1 C.1.2.1 dX11_then_32 rfl (lv_at hl 1 rfl) ?_
  obtain ⟨q4, hq4, hF⟩ := bnd_some hF
  refine x_callV C X (k := 51) xv_X11_243 (rfl : xk 51 = 10) rfl rfl (by decide) (kX10_begin O.1.1 C.2.2.2.2.1 N T1 21 x1 (hk_T1 : xk T1 = 9) (rfl : xk 21 = 7) q3.2.2 q4 hq4) (Nat.le_of_ble_eq_true rfl) (Nat.le_of_ble_eq_true rfl) (Nat.le_of_ble_eq_true rfl) (Nat.le_of_ble_eq_true rfl) rfl hl.1 rfl (Nat.le_of_ble_eq_true rfl) dX11_then_33 (fun H locs X => ?_)
  refine lv_aload_n C.1.1 C.1.2.1 dX11_then_36 rfl (lv_at hl 0 rfl) ?_
  refine xg_X11_36 C O.1.1 X (k := 0) rfl (j := 51) rfl dX11_then_37 ?_
  refine lv_aload_n C.1.1 C.1.2.1 dX11_then_40 rfl (lv_at hl 0 rfl) ?_
  obtain ⟨T2, eT2, hF⟩ := lt_some hF
  have hk_T2 := xtw_k eT2
  refine xg_X11_57 C O.1.1 X (T := T2) eT2 (k := 0) rfl dX11_then_41 ?_
  refine lv_iload_n C.1.1 C.1.2.1 dX11_then_44 rfl (lv_at hl 2 rfl) ?_
  obtain ⟨q5, hq5, hF⟩ := bnd_some hF
  refine x_callV C X (k := 51) xv_X11_246 (rfl : xk 51 = 10) rfl rfl (by decide) (kX10_passHours O.1.1 C.2.2.2.2.1 N T2 x2 (hk_T2 : xk T2 = 9) q4.2 q5 hq5) (Nat.le_of_ble_eq_true rfl) (Nat.le_of_ble_eq_true rfl) (Nat.le_of_ble_eq_true rfl) (Nat.le_of_ble_eq_true rfl) rfl hl.1 rfl (Nat.le_of_ble_eq_true rfl) dX11_then_45 (fun H locs X => ?_)
  refine lv_iload_n C.1.1 C.1.2.1 dX11_then_48 rfl (lv_at hl 3 rfl) ?_
  by_cases hz_0 : x3 = 0
  · rw [if_pos hz_0] at hF
    refine lv_tableIn (off := 27) (tgt := 76) C.1.1 C.1.2.1 dX11_then_49 (by rw [hz_0]; decide) (by rw [hz_0]; decide) (by rw [hz_0]; decide) (by decide) ?_
    exact bX11_then_76 C O Tb X (lv_sub hl [0] rfl) hF
  rw [if_neg hz_0] at hF
  by_cases hz_1 : x3 = 1
  · rw [if_pos hz_1] at hF
    refine lv_tableIn (off := 35) (tgt := 84) C.1.1 C.1.2.1 dX11_then_49 (by rw [hz_1]; decide) (by rw [hz_1]; decide) (by rw [hz_1]; decide) (by decide) ?_
    exact bX11_then_84 C O Tb X (lv_sub hl [0] rfl) hF
  rw [if_neg hz_1] at hF
  by_cases hz_2 : x3 = 2
  · rw [if_pos hz_2] at hF
    refine lv_tableIn (off := 43) (tgt := 92) C.1.1 C.1.2.1 dX11_then_49 (by rw [hz_2]; decide) (by rw [hz_2]; decide) (by rw [hz_2]; decide) (by decide) ?_
    exact bX11_then_92 C O Tb X (lv_sub hl [0] rfl) hF
  rw [if_neg hz_2] at hF
  refine lv_tableOut (tgt := 100) C.1.1 C.1.2.1 dX11_then_49 (g_tsw 0 2 _ ?_) (by decide) ?_
  · intro i hi1 hi2
    rcases (show i = 0 ∨ i = 1 ∨ i = 2 by omega) with rfl | rfl | rfl
    · exact hz_0
    · exact hz_1
    · exact hz_2
  exact bX11_then_100 C O Tb X (lv_sub hl [0] rfl) hF
noncomputable def fX11_then (N : Nat) (x1 : Int32) (x2 : Int32) (x3 : Int32) (S : gS) : Option (tR) := fX11_then_b0 N x1 x2 x3 S
theorem kX11_then {l : Launch} {D : va_G} {g : Nat → Nat} {cI cB cZ cQ : ClassId} {Am : (Nat → Prop) → State → Heap → Prop} {aK aV : Nat → Nat} (O : tO l g cI cB cZ cQ Am aK aV) (P : gAm Am) (N : Nat) (x1 : Int32) (x2 : Int32) (x3 : Int32) (S : gS) (o : tR) (hF : fX11_then N x1 x2 x3 S = some o) : gN l yX11_then cX11_then 4 ((some .int)) 7 3 D (xtys cI cB cZ cQ) (xcell g cI cB cZ cQ) xord g Am [.ref (g 0), .int x1, .int x2, .int x3] S false o :=
  gN_of P (by decide) (Nat.le_of_ble_eq_true rfl) (fun p e s m args below meth c ls C Tb X hl => bX11_then_0 C O Tb X (lv_sub hl [0, 1, 2, 3] rfl) hF)
-- X11.dripping
noncomputable def fX11_dripping_b0 (N : Nat) (x1 : Int32) (S : gS) : Option (tR) := bnx (fX11_needWithin N x1 1 60 S) fun q1 => (bnd (fX11_dripBits N x1 q1.2.2) fun q2 => (some (0, q2.1, q2.2)))
theorem bX11_dripping_0 {N : Nat} {x1 : Int32} {S : gS} {H : Heap} {locs : List Loc} {ls : Array Slot} {o : tR} (C : gC p s m args meth c cX11_dripping 2 RX11 ((some .int)) D (xtys cI cB cZ cQ) xord g Am) (O : tO l g cI cB cZ cQ Am aK aV) (Tb : ∀ x ∈ c.exceptionTable.toList, False) (X : gX D (xcell g cI cB cZ cQ) xord g S s H locs) (hl : lv_has ls 2 [(0, .ref (g 0)), (1, .int x1)]) (hF : fX11_dripping_b0 N x1 S = some o) : W p l e (rmx 7 1) s m args below meth c H locs 0 0 (gEX below args s D (xtys cI cB cZ cQ) (xcell g cI cB cZ cQ) xord g 1 false o) (F0 m 0 ls []) := by
  unfold fX11_dripping_b0 at hF
  refine lv_iload_n C.1.1 C.1.2.1 dX11_dripping_0 rfl (lv_at hl 1 rfl) ?_
  refine lv_iconst (v := 1) C.1.1 C.1.2.1 dX11_dripping_1 (by decide) ?_
  refine lv_bipush (v := 60) C.1.1 C.1.2.1 dX11_dripping_2 (by decide) ?_
  rcases (bnx_some hF).symm with ⟨q1, hq1, zq1, eo⟩ | ⟨q1, hq1, zq1, hF⟩
  · subst eo
    exact t_thr (t_preS C X xv_X11_239 (kX11_needWithin O C.2.2.2.2.1 N x1 1 60 S q1 hq1) (Nat.le_of_ble_eq_true rfl) (Nat.le_of_ble_eq_true rfl) (Nat.le_of_ble_eq_true rfl) (Nat.le_of_ble_eq_true rfl) rfl hl.1 rfl (Nat.le_of_ble_eq_true rfl) dX11_dripping_4) zq1 C Tb X (by decide) (by decide)
  refine t_okv (t_preS C X xv_X11_239 (kX11_needWithin O C.2.2.2.2.1 N x1 1 60 S q1 hq1) (Nat.le_of_ble_eq_true rfl) (Nat.le_of_ble_eq_true rfl) (Nat.le_of_ble_eq_true rfl) (Nat.le_of_ble_eq_true rfl) rfl hl.1 rfl (Nat.le_of_ble_eq_true rfl) dX11_dripping_4) zq1 X (fun H locs X => ?_)
  refine W.widen (k := 1) (n := 6) (by decide) (by decide) ?_
  refine lv_aload_n C.1.1 C.1.2.1 dX11_dripping_7 rfl (lv_at hl 0 rfl) ?_
  refine lv_iload_n C.1.1 C.1.2.1 dX11_dripping_8 rfl (lv_at hl 1 rfl) ?_
  obtain ⟨q2, hq2, hF⟩ := bnd_some hF
  refine x_callVi C X (k := 0) xv_X11_258 (rfl : xk 0 = 11) rfl rfl (by decide) (kX11_dripBits O.1.1 C.2.2.2.2.1 N x1 q1.2.2 q2 hq2) (Nat.le_of_ble_eq_true rfl) (Nat.le_of_ble_eq_true rfl) (Nat.le_of_ble_eq_true rfl) (Nat.le_of_ble_eq_true rfl) rfl hl.1 rfl (Nat.le_of_ble_eq_true rfl) dX11_dripping_9 (fun H locs X => ?_)
  cases hF
  exact t_iret C X (by decide) (by decide) dX11_dripping_12
noncomputable def fX11_dripping (N : Nat) (x1 : Int32) (S : gS) : Option (tR) := fX11_dripping_b0 N x1 S
theorem kX11_dripping {l : Launch} {D : va_G} {g : Nat → Nat} {cI cB cZ cQ : ClassId} {Am : (Nat → Prop) → State → Heap → Prop} {aK aV : Nat → Nat} (O : tO l g cI cB cZ cQ Am aK aV) (P : gAm Am) (N : Nat) (x1 : Int32) (S : gS) (o : tR) (hF : fX11_dripping N x1 S = some o) : gN l yX11_dripping cX11_dripping 2 ((some .int)) 7 1 D (xtys cI cB cZ cQ) (xcell g cI cB cZ cQ) xord g Am [.ref (g 0), .int x1] S false o :=
  gN_of P (by decide) (Nat.le_of_ble_eq_true rfl) (fun p e s m args below meth c ls C Tb X hl => bX11_dripping_0 C O Tb X (lv_sub hl [0, 1] rfl) hF)
-- X11.first
noncomputable def fX11_first_b68 (N : Nat) (S : gS) : Option (tR) := some (0, (-1), S)
theorem bX11_first_68 {N : Nat} {S : gS} {H : Heap} {locs : List Loc} {ls : Array Slot} {o : tR} (C : gC p s m args meth c cX11_first 3 RX11 ((some .int)) D (xtys cI cB cZ cQ) xord g Am) (O : tO l g cI cB cZ cQ Am aK aV) (Tb : ∀ x ∈ c.exceptionTable.toList, False) (X : gX D (xcell g cI cB cZ cQ) xord g S s H locs) (hl : lv_has ls 3 []) (hF : fX11_first_b68 N S = some o) : W p l e (rmx 7 1) s m args below meth c H locs 1 6 (gEX below args s D (xtys cI cB cZ cQ) (xcell g cI cB cZ cQ) xord g 1 false o) (F0 m 68 ls []) := by
  unfold fX11_first_b68 at hF
  refine lv_iconst (v := (-1)) C.1.1 C.1.2.1 dX11_first_68 (by decide) ?_
  cases hF
  exact t_iret (x := (-1)) C X (by decide) (by decide) dX11_first_69
noncomputable def fX11_first_b62 (N : Nat) (r26 : Int32 → gS → Option (tR)) (x2 : Int32) (S : gS) : Option (tR) := r26 ((x2 + 1 : Int32)) S
theorem bX11_first_62 {N : Nat} {r26 : Int32 → gS → Option (tR)} {x2 : Int32} {S : gS} {H : Heap} {locs : List Loc} {ls : Array Slot} {o : tR} (C : gC p s m args meth c cX11_first 3 RX11 ((some .int)) D (xtys cI cB cZ cQ) xord g Am) (O : tO l g cI cB cZ cQ Am aK aV) (Tb : ∀ x ∈ c.exceptionTable.toList, False) (K26 : ∀ (x2 : Int32) (S : gS) (H : Heap) (locs : List Loc) (ls : Array Slot), gX D (xcell g cI cB cZ cQ) xord g S s H locs → lv_has ls 3 [(0, .ref (g 0)), (2, .int x2)] → r26 x2 S = some o → W p l e (rmx 7 1) s m args below meth c H locs 1 6 (gEX below args s D (xtys cI cB cZ cQ) (xcell g cI cB cZ cQ) xord g 1 false o) (F0 m 26 ls [])) (X : gX D (xcell g cI cB cZ cQ) xord g S s H locs) (hl : lv_has ls 3 [(0, .ref (g 0)), (2, .int x2)]) (hF : fX11_first_b62 N r26 x2 S = some o) : W p l e (rmx 7 1) s m args below meth c H locs 1 6 (gEX below args s D (xtys cI cB cZ cQ) (xcell g cI cB cZ cQ) xord g 1 false o) (F0 m 62 ls []) := by
  unfold fX11_first_b62 at hF
  refine lv_iinc (v := (x2 + 1 : Int32)) (lv' := [(2, .int ((x2 + 1 : Int32))), (0, .ref (g 0))]) C.1.1 C.1.2.1 dX11_first_62 hl (k := 1) rfl rfl (by decide) rfl (fun ls hl => ?_)
  refine lv_goto (tgt := 26) C.1.1 C.1.2.1 dX11_first_65 (by decide) ?_
  exact K26 _ _ _ _ _ X (lv_sub hl [1, 0] rfl) hF
noncomputable def fX11_first_b60 (N : Nat) (x2 : Int32) (S : gS) : Option (tR) := some (0, x2, S)
theorem bX11_first_60 {N : Nat} {x2 : Int32} {S : gS} {H : Heap} {locs : List Loc} {ls : Array Slot} {o : tR} (C : gC p s m args meth c cX11_first 3 RX11 ((some .int)) D (xtys cI cB cZ cQ) xord g Am) (O : tO l g cI cB cZ cQ Am aK aV) (Tb : ∀ x ∈ c.exceptionTable.toList, False) (X : gX D (xcell g cI cB cZ cQ) xord g S s H locs) (hl : lv_has ls 3 [(2, .int x2)]) (hF : fX11_first_b60 N x2 S = some o) : W p l e (rmx 7 1) s m args below meth c H locs 1 6 (gEX below args s D (xtys cI cB cZ cQ) (xcell g cI cB cZ cQ) xord g 1 false o) (F0 m 60 ls []) := by
  unfold fX11_first_b60 at hF
  refine lv_iload_n C.1.1 C.1.2.1 dX11_first_60 rfl (lv_at hl 0 rfl) ?_
  cases hF
  exact t_iret C X (by decide) (by decide) dX11_first_61
noncomputable def fX11_first_b32 (N : Nat) (r26 : Int32 → gS → Option (tR)) (x2 : Int32) (S : gS) : Option (tR) := lt (xtw S) fun T1 => (lt (xtw S) fun T2 => (bnd (fX9_wetOf N T2 (S 51 5) S) fun q1 => (bnd (fX10_passHour N T1 q1.1 q1.2) fun q2 => (if q2.1 = 0 then fX11_first_b62 N r26 x2 q2.2 else fX11_first_b60 N x2 q2.2))))
theorem bX11_first_32 {N : Nat} {r26 : Int32 → gS → Option (tR)} {x2 : Int32} {S : gS} {H : Heap} {locs : List Loc} {ls : Array Slot} {o : tR} (C : gC p s m args meth c cX11_first 3 RX11 ((some .int)) D (xtys cI cB cZ cQ) xord g Am) (O : tO l g cI cB cZ cQ Am aK aV) (Tb : ∀ x ∈ c.exceptionTable.toList, False) (K26 : ∀ (x2 : Int32) (S : gS) (H : Heap) (locs : List Loc) (ls : Array Slot), gX D (xcell g cI cB cZ cQ) xord g S s H locs → lv_has ls 3 [(0, .ref (g 0)), (2, .int x2)] → r26 x2 S = some o → W p l e (rmx 7 1) s m args below meth c H locs 1 6 (gEX below args s D (xtys cI cB cZ cQ) (xcell g cI cB cZ cQ) xord g 1 false o) (F0 m 26 ls [])) (X : gX D (xcell g cI cB cZ cQ) xord g S s H locs) (hl : lv_has ls 3 [(0, .ref (g 0)), (2, .int x2)]) (hF : fX11_first_b32 N r26 x2 S = some o) : W p l e (rmx 7 1) s m args below meth c H locs 1 6 (gEX below args s D (xtys cI cB cZ cQ) (xcell g cI cB cZ cQ) xord g 1 false o) (F0 m 32 ls []) := by
  unfold fX11_first_b32 at hF
  refine lv_aload_n C.1.1 C.1.2.1 dX11_first_32 rfl (lv_at hl 0 rfl) ?_
  refine xg_X11_36 C O.1.1 X (k := 0) rfl (j := 51) rfl dX11_first_33 ?_
  refine lv_aload_n C.1.1 C.1.2.1 dX11_first_36 rfl (lv_at hl 0 rfl) ?_
  obtain ⟨T1, eT1, hF⟩ := lt_some hF
  have hk_T1 := xtw_k eT1
  refine xg_X11_57 C O.1.1 X (T := T1) eT1 (k := 0) rfl dX11_first_37 ?_
  refine lv_aload_n C.1.1 C.1.2.1 dX11_first_40 rfl (lv_at hl 0 rfl) ?_
  obtain ⟨T2, eT2, hF⟩ := lt_some hF
  have hk_T2 := xtw_k eT2
  refine xg_X11_57 C O.1.1 X (T := T2) eT2 (k := 0) rfl dX11_first_41 ?_
  refine lv_aload_n C.1.1 C.1.2.1 dX11_first_44 rfl (lv_at hl 0 rfl) ?_
  refine xg_X11_36 C O.1.1 X (k := 0) rfl (j := 51) rfl dX11_first_45 ?_
  refine xg_X11_261 C O.1.1 X (k := 51) rfl dX11_first_48 ?_
  obtain ⟨q1, hq1, hF⟩ := bnd_some hF
  refine x_callVi C X (k := T2) xv_X11_117 hk_T2 rfl rfl (by decide) (kX9_wetOf O.1.1 C.2.2.2.2.1 N T2 (S 51 5) (hk_T2 : xk T2 = 9) S q1 hq1) (Nat.le_of_ble_eq_true rfl) (Nat.le_of_ble_eq_true rfl) (Nat.le_of_ble_eq_true rfl) (Nat.le_of_ble_eq_true rfl) rfl hl.1 rfl (Nat.le_of_ble_eq_true rfl) dX11_first_51 (fun H locs X => ?_)
  obtain ⟨q2, hq2, hF⟩ := bnd_some hF
  refine x_callVi C X (k := 51) xv_X11_262 (rfl : xk 51 = 10) rfl rfl (by decide) (kX10_passHour O.1.1 C.2.2.2.2.1 N T1 q1.1 (hk_T1 : xk T1 = 9) q1.2 q2 hq2) (Nat.le_of_ble_eq_true rfl) (Nat.le_of_ble_eq_true rfl) (Nat.le_of_ble_eq_true rfl) (Nat.le_of_ble_eq_true rfl) rfl hl.1 rfl (Nat.le_of_ble_eq_true rfl) dX11_first_54 (fun H locs X => ?_)
  refine lv_if_eq (tgt := 62) C.1.1 C.1.2.1 dX11_first_57 (by decide) (fun h_z => ?_) (fun h_z => ?_)
  · rw [if_pos h_z] at hF
    exact bX11_first_62 C O Tb K26 X (lv_sub hl [0, 1] rfl) hF
  · rw [if_neg h_z] at hF
    exact bX11_first_60 C O Tb X (lv_sub hl [1] rfl) hF
noncomputable def fX11_first_b26 (N : Nat) (r26 : Int32 → gS → Option (tR)) (x2 : Int32) (S : gS) : Option (tR) := if 60 < x2 then fX11_first_b68 N S else fX11_first_b32 N r26 x2 S
theorem bX11_first_26 {N : Nat} {r26 : Int32 → gS → Option (tR)} {x2 : Int32} {S : gS} {H : Heap} {locs : List Loc} {ls : Array Slot} {o : tR} (C : gC p s m args meth c cX11_first 3 RX11 ((some .int)) D (xtys cI cB cZ cQ) xord g Am) (O : tO l g cI cB cZ cQ Am aK aV) (Tb : ∀ x ∈ c.exceptionTable.toList, False) (K26 : ∀ (x2 : Int32) (S : gS) (H : Heap) (locs : List Loc) (ls : Array Slot), gX D (xcell g cI cB cZ cQ) xord g S s H locs → lv_has ls 3 [(0, .ref (g 0)), (2, .int x2)] → r26 x2 S = some o → W p l e (rmx 7 1) s m args below meth c H locs 1 6 (gEX below args s D (xtys cI cB cZ cQ) (xcell g cI cB cZ cQ) xord g 1 false o) (F0 m 26 ls [])) (X : gX D (xcell g cI cB cZ cQ) xord g S s H locs) (hl : lv_has ls 3 [(0, .ref (g 0)), (2, .int x2)]) (hF : fX11_first_b26 N r26 x2 S = some o) : W p l e (rmx 7 1) s m args below meth c H locs 1 6 (gEX below args s D (xtys cI cB cZ cQ) (xcell g cI cB cZ cQ) xord g 1 false o) (F0 m 26 ls []) := by
  unfold fX11_first_b26 at hF
  refine lv_iload_n C.1.1 C.1.2.1 dX11_first_26 rfl (lv_at hl 1 rfl) ?_
  refine lv_bipush (v := 60) C.1.1 C.1.2.1 dX11_first_27 (by decide) ?_
  refine lv_icmp_gt (tgt := 68) C.1.1 C.1.2.1 dX11_first_29 (by decide) (fun h_z => ?_) (fun h_z => ?_)
  · rw [if_pos h_z] at hF
    exact bX11_first_68 C O Tb X (lv_sub hl [] rfl) hF
  · rw [if_neg h_z] at hF
    exact bX11_first_32 C O Tb K26 X (lv_sub hl [0, 1] rfl) hF
noncomputable def fX11_first_h26 (N : Nat) : Nat → Int32 → gS → Option (tR)
  | 0, _, _ => none
  | n + 1, x2, S => fX11_first_b26 N (fX11_first_h26 N n) x2 S
theorem hX11_first_26 {N : Nat} {o : tR} (C : gC p s m args meth c cX11_first 3 RX11 ((some .int)) D (xtys cI cB cZ cQ) xord g Am) (O : tO l g cI cB cZ cQ Am aK aV) (Tb : ∀ x ∈ c.exceptionTable.toList, False) : ∀ (n : Nat) (x2 : Int32) (S : gS) (H : Heap) (locs : List Loc) (ls : Array Slot), gX D (xcell g cI cB cZ cQ) xord g S s H locs → lv_has ls 3 [(0, .ref (g 0)), (2, .int x2)] → fX11_first_h26 N n x2 S = some o → W p l e (rmx 7 1) s m args below meth c H locs 1 6 (gEX below args s D (xtys cI cB cZ cQ) (xcell g cI cB cZ cQ) xord g 1 false o) (F0 m 26 ls []) := by
  intro n
  induction n with
  | zero =>
    intro x2 S H locs ls X hl hF
    exact absurd (show (none : Option (tR)) = some o from hF) (by simp)
  | succ n ih =>
    intro x2 S H locs ls X hl hF
    have hF : fX11_first_b26 N (fX11_first_h26 N n) x2 S = some o := hF
    exact bX11_first_26 C O Tb ih X hl hF
noncomputable def fX11_first_b0 (N : Nat) (x1 : Int32) (S : gS) : Option (tR) := bnx (fX11_needGuild N x1 S) fun q1 => (lt (xtw q1.2.2) fun T1 => (bnd (fX10_begin N T1 21 x1 q1.2.2) fun q2 => (fX11_first_h26 N N 1 q2.2)))
theorem bX11_first_0 {N : Nat} {x1 : Int32} {S : gS} {H : Heap} {locs : List Loc} {ls : Array Slot} {o : tR} (C : gC p s m args meth c cX11_first 3 RX11 ((some .int)) D (xtys cI cB cZ cQ) xord g Am) (O : tO l g cI cB cZ cQ Am aK aV) (Tb : ∀ x ∈ c.exceptionTable.toList, False) (X : gX D (xcell g cI cB cZ cQ) xord g S s H locs) (hl : lv_has ls 3 [(0, .ref (g 0)), (1, .int x1)]) (hF : fX11_first_b0 N x1 S = some o) : W p l e (rmx 7 1) s m args below meth c H locs 0 0 (gEX below args s D (xtys cI cB cZ cQ) (xcell g cI cB cZ cQ) xord g 1 false o) (F0 m 0 ls []) := by
  unfold fX11_first_b0 at hF
  refine lv_aload_n C.1.1 C.1.2.1 dX11_first_0 rfl (lv_at hl 0 rfl) ?_
  refine lv_iload_n C.1.1 C.1.2.1 dX11_first_1 rfl (lv_at hl 1 rfl) ?_
  rcases (bnx_some hF).symm with ⟨q1, hq1, zq1, eo⟩ | ⟨q1, hq1, zq1, hF⟩
  · subst eo
    exact t_thr (x_preT C X xv_X11_191 rfl (kX11_needGuild O C.2.2.2.2.1 N x1 S q1 hq1) (Nat.le_of_ble_eq_true rfl) (Nat.le_of_ble_eq_true rfl) (Nat.le_of_ble_eq_true rfl) (Nat.le_of_ble_eq_true rfl) rfl hl.1 rfl (Nat.le_of_ble_eq_true rfl) dX11_first_2) zq1 C Tb X (by decide) (by decide)
  refine t_okv (x_preT C X xv_X11_191 rfl (kX11_needGuild O C.2.2.2.2.1 N x1 S q1 hq1) (Nat.le_of_ble_eq_true rfl) (Nat.le_of_ble_eq_true rfl) (Nat.le_of_ble_eq_true rfl) (Nat.le_of_ble_eq_true rfl) rfl hl.1 rfl (Nat.le_of_ble_eq_true rfl) dX11_first_2) zq1 X (fun H locs X => ?_)
  refine W.widen (k := 1) (n := 6) (by decide) (by decide) ?_
  refine lv_aload_n C.1.1 C.1.2.1 dX11_first_5 rfl (lv_at hl 0 rfl) ?_
  refine xg_X11_36 C O.1.1 X (k := 0) rfl (j := 51) rfl dX11_first_6 ?_
  refine lv_aload_n C.1.1 C.1.2.1 dX11_first_9 rfl (lv_at hl 0 rfl) ?_
  obtain ⟨T1, eT1, hF⟩ := lt_some hF
  have hk_T1 := xtw_k eT1
  refine xg_X11_57 C O.1.1 X (T := T1) eT1 (k := 0) rfl dX11_first_10 ?_
  refine lv_aload_n C.1.1 C.1.2.1 dX11_first_13 rfl (lv_at hl 0 rfl) ?_
  refine xg_X11_19 C O.1.1 X (k := 0) rfl (j := 20) rfl dX11_first_14 ?_
  refine xg_X11_105 C O.1.1 X (k := 20) rfl (j := 21) rfl dX11_first_17 ?_
  refine lv_iload_n C.1.1 C.1.2.1 dX11_first_20 rfl (lv_at hl 1 rfl) ?_
  obtain ⟨q2, hq2, hF⟩ := bnd_some hF
  refine x_callV C X (k := 51) xv_X11_243 (rfl : xk 51 = 10) rfl rfl (by decide) (kX10_begin O.1.1 C.2.2.2.2.1 N T1 21 x1 (hk_T1 : xk T1 = 9) (rfl : xk 21 = 7) q1.2.2 q2 hq2) (Nat.le_of_ble_eq_true rfl) (Nat.le_of_ble_eq_true rfl) (Nat.le_of_ble_eq_true rfl) (Nat.le_of_ble_eq_true rfl) rfl hl.1 rfl (Nat.le_of_ble_eq_true rfl) dX11_first_21 (fun H locs X => ?_)
  refine lv_iconst (v := 1) C.1.1 C.1.2.1 dX11_first_24 (by decide) ?_
  refine lv_istore_n (lv' := [(2, .int 1), (0, .ref (g 0)), (1, .int x1)]) C.1.1 C.1.2.1 dX11_first_25 rfl hl (by decide) rfl (fun ls hl => ?_)
  exact hX11_first_26 C O Tb N _ _ _ _ _ X (lv_sub hl [1, 0] rfl) hF
noncomputable def fX11_first (N : Nat) (x1 : Int32) (S : gS) : Option (tR) := fX11_first_b0 N x1 S
theorem kX11_first {l : Launch} {D : va_G} {g : Nat → Nat} {cI cB cZ cQ : ClassId} {Am : (Nat → Prop) → State → Heap → Prop} {aK aV : Nat → Nat} (O : tO l g cI cB cZ cQ Am aK aV) (P : gAm Am) (N : Nat) (x1 : Int32) (S : gS) (o : tR) (hF : fX11_first N x1 S = some o) : gN l yX11_first cX11_first 3 ((some .int)) 7 1 D (xtys cI cB cZ cQ) (xcell g cI cB cZ cQ) xord g Am [.ref (g 0), .int x1] S false o :=
  gN_of P (by decide) (Nat.le_of_ble_eq_true rfl) (fun p e s m args below meth c ls C Tb X hl => bX11_first_0 C O Tb X (lv_sub hl [0, 1] rfl) hF)
-- X11.dismissed
noncomputable def fX11_dismissed_b81 (N : Nat) (S : gS) : Option (tR) := some (0, (-1), S)
theorem bX11_dismissed_81 {N : Nat} {S : gS} {H : Heap} {locs : List Loc} {ls : Array Slot} {o : tR} (C : gC p s m args meth c cX11_dismissed 3 RX11 ((some .int)) D (xtys cI cB cZ cQ) xord g Am) (O : tO l g cI cB cZ cQ Am aK aV) (Tb : ∀ x ∈ c.exceptionTable.toList, False) (X : gX D (xcell g cI cB cZ cQ) xord g S s H locs) (hl : lv_has ls 3 []) (hF : fX11_dismissed_b81 N S = some o) : W p l e (rmx 7 1) s m args below meth c H locs 1 6 (gEX below args s D (xtys cI cB cZ cQ) (xcell g cI cB cZ cQ) xord g 1 false o) (F0 m 81 ls []) := by
  unfold fX11_dismissed_b81 at hF
  refine lv_iconst (v := (-1)) C.1.1 C.1.2.1 dX11_dismissed_81 (by decide) ?_
  cases hF
  exact t_iret (x := (-1)) C X (by decide) (by decide) dX11_dismissed_82
noncomputable def fX11_dismissed_b75 (N : Nat) (r44 : Int32 → gS → Option (tR)) (x2 : Int32) (S : gS) : Option (tR) := r44 ((x2 + 1 : Int32)) S
theorem bX11_dismissed_75 {N : Nat} {r44 : Int32 → gS → Option (tR)} {x2 : Int32} {S : gS} {H : Heap} {locs : List Loc} {ls : Array Slot} {o : tR} (C : gC p s m args meth c cX11_dismissed 3 RX11 ((some .int)) D (xtys cI cB cZ cQ) xord g Am) (O : tO l g cI cB cZ cQ Am aK aV) (Tb : ∀ x ∈ c.exceptionTable.toList, False) (K44 : ∀ (x2 : Int32) (S : gS) (H : Heap) (locs : List Loc) (ls : Array Slot), gX D (xcell g cI cB cZ cQ) xord g S s H locs → lv_has ls 3 [(0, .ref (g 0)), (2, .int x2)] → r44 x2 S = some o → W p l e (rmx 7 1) s m args below meth c H locs 1 6 (gEX below args s D (xtys cI cB cZ cQ) (xcell g cI cB cZ cQ) xord g 1 false o) (F0 m 44 ls [])) (X : gX D (xcell g cI cB cZ cQ) xord g S s H locs) (hl : lv_has ls 3 [(0, .ref (g 0)), (2, .int x2)]) (hF : fX11_dismissed_b75 N r44 x2 S = some o) : W p l e (rmx 7 1) s m args below meth c H locs 1 6 (gEX below args s D (xtys cI cB cZ cQ) (xcell g cI cB cZ cQ) xord g 1 false o) (F0 m 75 ls []) := by
  unfold fX11_dismissed_b75 at hF
  refine lv_iinc (v := (x2 + 1 : Int32)) (lv' := [(2, .int ((x2 + 1 : Int32))), (0, .ref (g 0))]) C.1.1 C.1.2.1 dX11_dismissed_75 hl (k := 1) rfl rfl (by decide) rfl (fun ls hl => ?_)
  refine lv_goto (tgt := 44) C.1.1 C.1.2.1 dX11_dismissed_78 (by decide) ?_
  exact K44 _ _ _ _ _ X (lv_sub hl [1, 0] rfl) hF
noncomputable def fX11_dismissed_b73 (N : Nat) (x2 : Int32) (S : gS) : Option (tR) := some (0, x2, S)
theorem bX11_dismissed_73 {N : Nat} {x2 : Int32} {S : gS} {H : Heap} {locs : List Loc} {ls : Array Slot} {o : tR} (C : gC p s m args meth c cX11_dismissed 3 RX11 ((some .int)) D (xtys cI cB cZ cQ) xord g Am) (O : tO l g cI cB cZ cQ Am aK aV) (Tb : ∀ x ∈ c.exceptionTable.toList, False) (X : gX D (xcell g cI cB cZ cQ) xord g S s H locs) (hl : lv_has ls 3 [(2, .int x2)]) (hF : fX11_dismissed_b73 N x2 S = some o) : W p l e (rmx 7 1) s m args below meth c H locs 1 6 (gEX below args s D (xtys cI cB cZ cQ) (xcell g cI cB cZ cQ) xord g 1 false o) (F0 m 73 ls []) := by
  unfold fX11_dismissed_b73 at hF
  refine lv_iload_n C.1.1 C.1.2.1 dX11_dismissed_73 rfl (lv_at hl 0 rfl) ?_
  cases hF
  exact t_iret C X (by decide) (by decide) dX11_dismissed_74
noncomputable def fX11_dismissed_b50 (N : Nat) (r44 : Int32 → gS → Option (tR)) (x2 : Int32) (S : gS) : Option (tR) := lt (xtw S) fun T1 => (bnd (fX10_passHours N T1 1 S) fun q1 => (if (q1.2 51 4) = ((-1)) then fX11_dismissed_b73 N x2 q1.2 else fX11_dismissed_b75 N r44 x2 q1.2))
theorem bX11_dismissed_50 {N : Nat} {r44 : Int32 → gS → Option (tR)} {x2 : Int32} {S : gS} {H : Heap} {locs : List Loc} {ls : Array Slot} {o : tR} (C : gC p s m args meth c cX11_dismissed 3 RX11 ((some .int)) D (xtys cI cB cZ cQ) xord g Am) (O : tO l g cI cB cZ cQ Am aK aV) (Tb : ∀ x ∈ c.exceptionTable.toList, False) (K44 : ∀ (x2 : Int32) (S : gS) (H : Heap) (locs : List Loc) (ls : Array Slot), gX D (xcell g cI cB cZ cQ) xord g S s H locs → lv_has ls 3 [(0, .ref (g 0)), (2, .int x2)] → r44 x2 S = some o → W p l e (rmx 7 1) s m args below meth c H locs 1 6 (gEX below args s D (xtys cI cB cZ cQ) (xcell g cI cB cZ cQ) xord g 1 false o) (F0 m 44 ls [])) (X : gX D (xcell g cI cB cZ cQ) xord g S s H locs) (hl : lv_has ls 3 [(0, .ref (g 0)), (2, .int x2)]) (hF : fX11_dismissed_b50 N r44 x2 S = some o) : W p l e (rmx 7 1) s m args below meth c H locs 1 6 (gEX below args s D (xtys cI cB cZ cQ) (xcell g cI cB cZ cQ) xord g 1 false o) (F0 m 50 ls []) := by
  unfold fX11_dismissed_b50 at hF
  refine lv_aload_n C.1.1 C.1.2.1 dX11_dismissed_50 rfl (lv_at hl 0 rfl) ?_
  refine xg_X11_36 C O.1.1 X (k := 0) rfl (j := 51) rfl dX11_dismissed_51 ?_
  refine lv_aload_n C.1.1 C.1.2.1 dX11_dismissed_54 rfl (lv_at hl 0 rfl) ?_
  obtain ⟨T1, eT1, hF⟩ := lt_some hF
  have hk_T1 := xtw_k eT1
  refine xg_X11_57 C O.1.1 X (T := T1) eT1 (k := 0) rfl dX11_dismissed_55 ?_
  refine lv_iconst (v := 1) C.1.1 C.1.2.1 dX11_dismissed_58 (by decide) ?_
  obtain ⟨q1, hq1, hF⟩ := bnd_some hF
  refine x_callV C X (k := 51) xv_X11_246 (rfl : xk 51 = 10) rfl rfl (by decide) (kX10_passHours O.1.1 C.2.2.2.2.1 N T1 1 (hk_T1 : xk T1 = 9) S q1 hq1) (Nat.le_of_ble_eq_true rfl) (Nat.le_of_ble_eq_true rfl) (Nat.le_of_ble_eq_true rfl) (Nat.le_of_ble_eq_true rfl) rfl hl.1 rfl (Nat.le_of_ble_eq_true rfl) dX11_dismissed_59 (fun H locs X => ?_)
  refine lv_aload_n C.1.1 C.1.2.1 dX11_dismissed_62 rfl (lv_at hl 0 rfl) ?_
  refine xg_X11_36 C O.1.1 X (k := 0) rfl (j := 51) rfl dX11_dismissed_63 ?_
  refine xg_X11_256 C O.1.1 X (k := 51) rfl dX11_dismissed_66 ?_
  refine lv_iconst (v := (-1)) C.1.1 C.1.2.1 dX11_dismissed_69 (by decide) ?_
  refine lv_icmp_ne (tgt := 75) C.1.1 C.1.2.1 dX11_dismissed_70 (by decide) (fun h_z => ?_) (fun h_z => ?_)
  · rw [if_neg h_z] at hF
    exact bX11_dismissed_75 C O Tb K44 X (lv_sub hl [0, 1] rfl) hF
  · rw [if_pos h_z] at hF
    exact bX11_dismissed_73 C O Tb X (lv_sub hl [1] rfl) hF
noncomputable def fX11_dismissed_b44 (N : Nat) (r44 : Int32 → gS → Option (tR)) (x2 : Int32) (S : gS) : Option (tR) := if 60 < x2 then fX11_dismissed_b81 N S else fX11_dismissed_b50 N r44 x2 S
theorem bX11_dismissed_44 {N : Nat} {r44 : Int32 → gS → Option (tR)} {x2 : Int32} {S : gS} {H : Heap} {locs : List Loc} {ls : Array Slot} {o : tR} (C : gC p s m args meth c cX11_dismissed 3 RX11 ((some .int)) D (xtys cI cB cZ cQ) xord g Am) (O : tO l g cI cB cZ cQ Am aK aV) (Tb : ∀ x ∈ c.exceptionTable.toList, False) (K44 : ∀ (x2 : Int32) (S : gS) (H : Heap) (locs : List Loc) (ls : Array Slot), gX D (xcell g cI cB cZ cQ) xord g S s H locs → lv_has ls 3 [(0, .ref (g 0)), (2, .int x2)] → r44 x2 S = some o → W p l e (rmx 7 1) s m args below meth c H locs 1 6 (gEX below args s D (xtys cI cB cZ cQ) (xcell g cI cB cZ cQ) xord g 1 false o) (F0 m 44 ls [])) (X : gX D (xcell g cI cB cZ cQ) xord g S s H locs) (hl : lv_has ls 3 [(0, .ref (g 0)), (2, .int x2)]) (hF : fX11_dismissed_b44 N r44 x2 S = some o) : W p l e (rmx 7 1) s m args below meth c H locs 1 6 (gEX below args s D (xtys cI cB cZ cQ) (xcell g cI cB cZ cQ) xord g 1 false o) (F0 m 44 ls []) := by
  unfold fX11_dismissed_b44 at hF
  refine lv_iload_n C.1.1 C.1.2.1 dX11_dismissed_44 rfl (lv_at hl 1 rfl) ?_
  refine lv_bipush (v := 60) C.1.1 C.1.2.1 dX11_dismissed_45 (by decide) ?_
  refine lv_icmp_gt (tgt := 81) C.1.1 C.1.2.1 dX11_dismissed_47 (by decide) (fun h_z => ?_) (fun h_z => ?_)
  · rw [if_pos h_z] at hF
    exact bX11_dismissed_81 C O Tb X (lv_sub hl [] rfl) hF
  · rw [if_neg h_z] at hF
    exact bX11_dismissed_50 C O Tb K44 X (lv_sub hl [0, 1] rfl) hF
noncomputable def fX11_dismissed_h44 (N : Nat) : Nat → Int32 → gS → Option (tR)
  | 0, _, _ => none
  | n + 1, x2, S => fX11_dismissed_b44 N (fX11_dismissed_h44 N n) x2 S
theorem hX11_dismissed_44 {N : Nat} {o : tR} (C : gC p s m args meth c cX11_dismissed 3 RX11 ((some .int)) D (xtys cI cB cZ cQ) xord g Am) (O : tO l g cI cB cZ cQ Am aK aV) (Tb : ∀ x ∈ c.exceptionTable.toList, False) : ∀ (n : Nat) (x2 : Int32) (S : gS) (H : Heap) (locs : List Loc) (ls : Array Slot), gX D (xcell g cI cB cZ cQ) xord g S s H locs → lv_has ls 3 [(0, .ref (g 0)), (2, .int x2)] → fX11_dismissed_h44 N n x2 S = some o → W p l e (rmx 7 1) s m args below meth c H locs 1 6 (gEX below args s D (xtys cI cB cZ cQ) (xcell g cI cB cZ cQ) xord g 1 false o) (F0 m 44 ls []) := by
  intro n
  induction n with
  | zero =>
    intro x2 S H locs ls X hl hF
    exact absurd (show (none : Option (tR)) = some o from hF) (by simp)
  | succ n ih =>
    intro x2 S H locs ls X hl hF
    have hF : fX11_dismissed_b44 N (fX11_dismissed_h44 N n) x2 S = some o := hF
    exact bX11_dismissed_44 C O Tb ih X hl hF
noncomputable def fX11_dismissed_b23 (N : Nat) (x1 : Int32) (S : gS) : Option (tR) := lt (xtw S) fun T1 => (bnd (fX10_begin N T1 21 x1 S) fun q1 => (fX11_dismissed_h44 N N 1 q1.2))
theorem bX11_dismissed_23 {N : Nat} {x1 : Int32} {S : gS} {H : Heap} {locs : List Loc} {ls : Array Slot} {o : tR} (C : gC p s m args meth c cX11_dismissed 3 RX11 ((some .int)) D (xtys cI cB cZ cQ) xord g Am) (O : tO l g cI cB cZ cQ Am aK aV) (Tb : ∀ x ∈ c.exceptionTable.toList, False) (X : gX D (xcell g cI cB cZ cQ) xord g S s H locs) (hl : lv_has ls 3 [(0, .ref (g 0)), (1, .int x1)]) (hF : fX11_dismissed_b23 N x1 S = some o) : W p l e (rmx 7 1) s m args below meth c H locs 1 6 (gEX below args s D (xtys cI cB cZ cQ) (xcell g cI cB cZ cQ) xord g 1 false o) (F0 m 23 ls []) := by
  unfold fX11_dismissed_b23 at hF
  refine lv_aload_n C.1.1 C.1.2.1 dX11_dismissed_23 rfl (lv_at hl 0 rfl) ?_
  refine xg_X11_36 C O.1.1 X (k := 0) rfl (j := 51) rfl dX11_dismissed_24 ?_
  refine lv_aload_n C.1.1 C.1.2.1 dX11_dismissed_27 rfl (lv_at hl 0 rfl) ?_
  obtain ⟨T1, eT1, hF⟩ := lt_some hF
  have hk_T1 := xtw_k eT1
  refine xg_X11_57 C O.1.1 X (T := T1) eT1 (k := 0) rfl dX11_dismissed_28 ?_
  refine lv_aload_n C.1.1 C.1.2.1 dX11_dismissed_31 rfl (lv_at hl 0 rfl) ?_
  refine xg_X11_19 C O.1.1 X (k := 0) rfl (j := 20) rfl dX11_dismissed_32 ?_
  refine xg_X11_105 C O.1.1 X (k := 20) rfl (j := 21) rfl dX11_dismissed_35 ?_
  refine lv_iload_n C.1.1 C.1.2.1 dX11_dismissed_38 rfl (lv_at hl 1 rfl) ?_
  obtain ⟨q1, hq1, hF⟩ := bnd_some hF
  refine x_callV C X (k := 51) xv_X11_243 (rfl : xk 51 = 10) rfl rfl (by decide) (kX10_begin O.1.1 C.2.2.2.2.1 N T1 21 x1 (hk_T1 : xk T1 = 9) (rfl : xk 21 = 7) S q1 hq1) (Nat.le_of_ble_eq_true rfl) (Nat.le_of_ble_eq_true rfl) (Nat.le_of_ble_eq_true rfl) (Nat.le_of_ble_eq_true rfl) rfl hl.1 rfl (Nat.le_of_ble_eq_true rfl) dX11_dismissed_39 (fun H locs X => ?_)
  refine lv_iconst (v := 1) C.1.1 C.1.2.1 dX11_dismissed_42 (by decide) ?_
  refine lv_istore_n (lv' := [(2, .int 1), (0, .ref (g 0)), (1, .int x1)]) C.1.1 C.1.2.1 dX11_dismissed_43 rfl hl (by decide) rfl (fun ls hl => ?_)
  exact hX11_dismissed_44 C O Tb N _ _ _ _ _ X (lv_sub hl [1, 0] rfl) hF
noncomputable def fX11_dismissed_b21 (N : Nat) (S : gS) : Option (tR) := some (0, (-1), S)
theorem bX11_dismissed_21 {N : Nat} {S : gS} {H : Heap} {locs : List Loc} {ls : Array Slot} {o : tR} (C : gC p s m args meth c cX11_dismissed 3 RX11 ((some .int)) D (xtys cI cB cZ cQ) xord g Am) (O : tO l g cI cB cZ cQ Am aK aV) (Tb : ∀ x ∈ c.exceptionTable.toList, False) (X : gX D (xcell g cI cB cZ cQ) xord g S s H locs) (hl : lv_has ls 3 []) (hF : fX11_dismissed_b21 N S = some o) : W p l e (rmx 7 1) s m args below meth c H locs 1 6 (gEX below args s D (xtys cI cB cZ cQ) (xcell g cI cB cZ cQ) xord g 1 false o) (F0 m 21 ls []) := by
  unfold fX11_dismissed_b21 at hF
  refine lv_iconst (v := (-1)) C.1.1 C.1.2.1 dX11_dismissed_21 (by decide) ?_
  cases hF
  exact t_iret (x := (-1)) C X (by decide) (by decide) dX11_dismissed_22
noncomputable def fX11_dismissed_b0 (N : Nat) (x1 : Int32) (S : gS) : Option (tR) := bnx (fX11_needGuild N x1 S) fun q1 => (chk (inb x1 6) (if (q1.2.2 25 (Int32.toNatClampNeg x1)) = ((-1)) then fX11_dismissed_b21 N q1.2.2 else fX11_dismissed_b23 N x1 q1.2.2))
theorem bX11_dismissed_0 {N : Nat} {x1 : Int32} {S : gS} {H : Heap} {locs : List Loc} {ls : Array Slot} {o : tR} (C : gC p s m args meth c cX11_dismissed 3 RX11 ((some .int)) D (xtys cI cB cZ cQ) xord g Am) (O : tO l g cI cB cZ cQ Am aK aV) (Tb : ∀ x ∈ c.exceptionTable.toList, False) (X : gX D (xcell g cI cB cZ cQ) xord g S s H locs) (hl : lv_has ls 3 [(0, .ref (g 0)), (1, .int x1)]) (hF : fX11_dismissed_b0 N x1 S = some o) : W p l e (rmx 7 1) s m args below meth c H locs 0 0 (gEX below args s D (xtys cI cB cZ cQ) (xcell g cI cB cZ cQ) xord g 1 false o) (F0 m 0 ls []) := by
  unfold fX11_dismissed_b0 at hF
  refine lv_aload_n C.1.1 C.1.2.1 dX11_dismissed_0 rfl (lv_at hl 0 rfl) ?_
  refine lv_iload_n C.1.1 C.1.2.1 dX11_dismissed_1 rfl (lv_at hl 1 rfl) ?_
  rcases (bnx_some hF).symm with ⟨q1, hq1, zq1, eo⟩ | ⟨q1, hq1, zq1, hF⟩
  · subst eo
    exact t_thr (x_preT C X xv_X11_191 rfl (kX11_needGuild O C.2.2.2.2.1 N x1 S q1 hq1) (Nat.le_of_ble_eq_true rfl) (Nat.le_of_ble_eq_true rfl) (Nat.le_of_ble_eq_true rfl) (Nat.le_of_ble_eq_true rfl) rfl hl.1 rfl (Nat.le_of_ble_eq_true rfl) dX11_dismissed_2) zq1 C Tb X (by decide) (by decide)
  refine t_okv (x_preT C X xv_X11_191 rfl (kX11_needGuild O C.2.2.2.2.1 N x1 S q1 hq1) (Nat.le_of_ble_eq_true rfl) (Nat.le_of_ble_eq_true rfl) (Nat.le_of_ble_eq_true rfl) (Nat.le_of_ble_eq_true rfl) rfl hl.1 rfl (Nat.le_of_ble_eq_true rfl) dX11_dismissed_2) zq1 X (fun H locs X => ?_)
  refine W.widen (k := 1) (n := 6) (by decide) (by decide) ?_
  refine lv_aload_n C.1.1 C.1.2.1 dX11_dismissed_5 rfl (lv_at hl 0 rfl) ?_
  refine xg_X11_19 C O.1.1 X (k := 0) rfl (j := 20) rfl dX11_dismissed_6 ?_
  refine xg_X11_105 C O.1.1 X (k := 20) rfl (j := 21) rfl dX11_dismissed_9 ?_
  refine xg_X11_206 C O.1.1 X (k := 21) rfl (j := 25) rfl dX11_dismissed_12 ?_
  refine lv_iload_n C.1.1 C.1.2.1 dX11_dismissed_15 rfl (lv_at hl 1 rfl) ?_
  obtain ⟨h_1, hF⟩ := chk_some hF
  refine x_rI C X (k := 25) rfl (n := 6) rfl  (inb_vp h_1) rfl dX11_dismissed_16 ?_
  refine lv_iconst (v := (-1)) C.1.1 C.1.2.1 dX11_dismissed_17 (by decide) ?_
  refine lv_icmp_ne (tgt := 23) C.1.1 C.1.2.1 dX11_dismissed_18 (by decide) (fun h_z => ?_) (fun h_z => ?_)
  · rw [if_neg h_z] at hF
    exact bX11_dismissed_23 C O Tb X (lv_sub hl [0, 1] rfl) hF
  · rw [if_pos h_z] at hF
    exact bX11_dismissed_21 C O Tb X (lv_sub hl [] rfl) hF
noncomputable def fX11_dismissed (N : Nat) (x1 : Int32) (S : gS) : Option (tR) := fX11_dismissed_b0 N x1 S
theorem kX11_dismissed {l : Launch} {D : va_G} {g : Nat → Nat} {cI cB cZ cQ : ClassId} {Am : (Nat → Prop) → State → Heap → Prop} {aK aV : Nat → Nat} (O : tO l g cI cB cZ cQ Am aK aV) (P : gAm Am) (N : Nat) (x1 : Int32) (S : gS) (o : tR) (hF : fX11_dismissed N x1 S = some o) : gN l yX11_dismissed cX11_dismissed 3 ((some .int)) 7 1 D (xtys cI cB cZ cQ) (xcell g cI cB cZ cQ) xord g Am [.ref (g 0), .int x1] S false o :=
  gN_of P (by decide) (Nat.le_of_ble_eq_true rfl) (fun p e s m args below meth c ls C Tb X hl => bX11_dismissed_0 C O Tb X (lv_sub hl [0, 1] rfl) hF)
-- X11.most
noncomputable def fX11_most_b107 (N : Nat) (x3 : Int32) (S : gS) : Option (tR) := some (0, x3, S)
theorem bX11_most_107 {N : Nat} {x3 : Int32} {S : gS} {H : Heap} {locs : List Loc} {ls : Array Slot} {o : tR} (C : gC p s m args meth c cX11_most 7 RX11 ((some .int)) D (xtys cI cB cZ cQ) xord g Am) (O : tO l g cI cB cZ cQ Am aK aV) (Tb : ∀ x ∈ c.exceptionTable.toList, False) (X : gX D (xcell g cI cB cZ cQ) xord g S s H locs) (hl : lv_has ls 7 [(3, .int x3)]) (hF : fX11_most_b107 N x3 S = some o) : W p l e (rmx 7 2) s m args below meth c H locs 2 12 (gEX below args s D (xtys cI cB cZ cQ) (xcell g cI cB cZ cQ) xord g 2 false o) (F0 m 107 ls []) := by
  unfold fX11_most_b107 at hF
  refine lv_iload_n C.1.1 C.1.2.1 dX11_most_107 rfl (lv_at hl 0 rfl) ?_
  cases hF
  exact t_iret C X (by decide) (by decide) dX11_most_108
noncomputable def fX11_most_b101 (N : Nat) (r20 : Int32 → Int32 → Int32 → Int32 → Int32 → gS → Option (tR)) (x1 : Int32) (x2 : Int32) (x3 : Int32) (x4 : Int32) (x5 : Int32) (S : gS) : Option (tR) := r20 x1 x2 x3 x4 ((x5 + 1 : Int32)) S
theorem bX11_most_101 {N : Nat} {r20 : Int32 → Int32 → Int32 → Int32 → Int32 → gS → Option (tR)} {x1 : Int32} {x2 : Int32} {x3 : Int32} {x4 : Int32} {x5 : Int32} {S : gS} {H : Heap} {locs : List Loc} {ls : Array Slot} {o : tR} (C : gC p s m args meth c cX11_most 7 RX11 ((some .int)) D (xtys cI cB cZ cQ) xord g Am) (O : tO l g cI cB cZ cQ Am aK aV) (Tb : ∀ x ∈ c.exceptionTable.toList, False) (K20 : ∀ (x1 : Int32) (x2 : Int32) (x3 : Int32) (x4 : Int32) (x5 : Int32) (S : gS) (H : Heap) (locs : List Loc) (ls : Array Slot), gX D (xcell g cI cB cZ cQ) xord g S s H locs → lv_has ls 7 [(0, .ref (g 0)), (1, .int x1), (2, .int x2), (3, .int x3), (4, .int x4), (5, .int x5)] → r20 x1 x2 x3 x4 x5 S = some o → W p l e (rmx 7 2) s m args below meth c H locs 2 12 (gEX below args s D (xtys cI cB cZ cQ) (xcell g cI cB cZ cQ) xord g 2 false o) (F0 m 20 ls [])) (X : gX D (xcell g cI cB cZ cQ) xord g S s H locs) (hl : lv_has ls 7 [(0, .ref (g 0)), (1, .int x1), (2, .int x2), (3, .int x3), (4, .int x4), (5, .int x5)]) (hF : fX11_most_b101 N r20 x1 x2 x3 x4 x5 S = some o) : W p l e (rmx 7 2) s m args below meth c H locs 2 12 (gEX below args s D (xtys cI cB cZ cQ) (xcell g cI cB cZ cQ) xord g 2 false o) (F0 m 101 ls []) := by
  unfold fX11_most_b101 at hF
  refine lv_iinc (v := (x5 + 1 : Int32)) (lv' := [(5, .int ((x5 + 1 : Int32))), (0, .ref (g 0)), (1, .int x1), (2, .int x2), (3, .int x3), (4, .int x4)]) C.1.1 C.1.2.1 dX11_most_101 hl (k := 5) rfl rfl (by decide) rfl (fun ls hl => ?_)
  refine lv_goto (tgt := 20) C.1.1 C.1.2.1 dX11_most_104 (by decide) ?_
  exact K20 _ _ _ _ _ _ _ _ _ X (lv_sub hl [1, 2, 3, 4, 5, 0] rfl) hF
noncomputable def fX11_most_b94 (N : Nat) (r20 : Int32 → Int32 → Int32 → Int32 → Int32 → gS → Option (tR)) (x1 : Int32) (x2 : Int32) (x5 : Int32) (x6 : Int32) (S : gS) : Option (tR) := fX11_most_b101 N r20 x1 x2 x5 x6 x5 S
theorem bX11_most_94 {N : Nat} {r20 : Int32 → Int32 → Int32 → Int32 → Int32 → gS → Option (tR)} {x1 : Int32} {x2 : Int32} {x5 : Int32} {x6 : Int32} {S : gS} {H : Heap} {locs : List Loc} {ls : Array Slot} {o : tR} (C : gC p s m args meth c cX11_most 7 RX11 ((some .int)) D (xtys cI cB cZ cQ) xord g Am) (O : tO l g cI cB cZ cQ Am aK aV) (Tb : ∀ x ∈ c.exceptionTable.toList, False) (K20 : ∀ (x1 : Int32) (x2 : Int32) (x3 : Int32) (x4 : Int32) (x5 : Int32) (S : gS) (H : Heap) (locs : List Loc) (ls : Array Slot), gX D (xcell g cI cB cZ cQ) xord g S s H locs → lv_has ls 7 [(0, .ref (g 0)), (1, .int x1), (2, .int x2), (3, .int x3), (4, .int x4), (5, .int x5)] → r20 x1 x2 x3 x4 x5 S = some o → W p l e (rmx 7 2) s m args below meth c H locs 2 12 (gEX below args s D (xtys cI cB cZ cQ) (xcell g cI cB cZ cQ) xord g 2 false o) (F0 m 20 ls [])) (X : gX D (xcell g cI cB cZ cQ) xord g S s H locs) (hl : lv_has ls 7 [(0, .ref (g 0)), (1, .int x1), (2, .int x2), (5, .int x5), (6, .int x6)]) (hF : fX11_most_b94 N r20 x1 x2 x5 x6 S = some o) : W p l e (rmx 7 2) s m args below meth c H locs 2 12 (gEX below args s D (xtys cI cB cZ cQ) (xcell g cI cB cZ cQ) xord g 2 false o) (F0 m 94 ls []) := by
  unfold fX11_most_b94 at hF
  refine lv_iload C.1.1 C.1.2.1 dX11_most_94 (lv_at hl 3 rfl) ?_
  refine lv_istore_n (lv' := [(3, .int x5), (0, .ref (g 0)), (1, .int x1), (2, .int x2), (5, .int x5), (6, .int x6)]) C.1.1 C.1.2.1 dX11_most_96 rfl hl (by decide) rfl (fun ls hl => ?_)
  refine lv_iload C.1.1 C.1.2.1 dX11_most_97 (lv_at hl 5 rfl) ?_
  refine lv_istore (lv' := [(4, .int x6), (3, .int x5), (0, .ref (g 0)), (1, .int x1), (2, .int x2), (5, .int x5), (6, .int x6)]) C.1.1 C.1.2.1 dX11_most_99 hl (by decide) rfl (fun ls hl => ?_)
  exact bX11_most_101 C O Tb K20 X (lv_sub hl [2, 3, 4, 1, 0, 5] rfl) hF
noncomputable def fX11_most_b85 (N : Nat) (r20 : Int32 → Int32 → Int32 → Int32 → Int32 → gS → Option (tR)) (x1 : Int32) (x2 : Int32) (x3 : Int32) (x4 : Int32) (x5 : Int32) (t0 : Int32) (S : gS) : Option (tR) := if t0 ≤ x4 then fX11_most_b101 N r20 x1 x2 x3 x4 x5 S else fX11_most_b94 N r20 x1 x2 x5 t0 S
theorem bX11_most_85 {N : Nat} {r20 : Int32 → Int32 → Int32 → Int32 → Int32 → gS → Option (tR)} {x1 : Int32} {x2 : Int32} {x3 : Int32} {x4 : Int32} {x5 : Int32} {t0 : Int32} {S : gS} {H : Heap} {locs : List Loc} {ls : Array Slot} {o : tR} (C : gC p s m args meth c cX11_most 7 RX11 ((some .int)) D (xtys cI cB cZ cQ) xord g Am) (O : tO l g cI cB cZ cQ Am aK aV) (Tb : ∀ x ∈ c.exceptionTable.toList, False) (K20 : ∀ (x1 : Int32) (x2 : Int32) (x3 : Int32) (x4 : Int32) (x5 : Int32) (S : gS) (H : Heap) (locs : List Loc) (ls : Array Slot), gX D (xcell g cI cB cZ cQ) xord g S s H locs → lv_has ls 7 [(0, .ref (g 0)), (1, .int x1), (2, .int x2), (3, .int x3), (4, .int x4), (5, .int x5)] → r20 x1 x2 x3 x4 x5 S = some o → W p l e (rmx 7 2) s m args below meth c H locs 2 12 (gEX below args s D (xtys cI cB cZ cQ) (xcell g cI cB cZ cQ) xord g 2 false o) (F0 m 20 ls [])) (X : gX D (xcell g cI cB cZ cQ) xord g S s H locs) (hl : lv_has ls 7 [(0, .ref (g 0)), (1, .int x1), (2, .int x2), (3, .int x3), (4, .int x4), (5, .int x5)]) (hF : fX11_most_b85 N r20 x1 x2 x3 x4 x5 t0 S = some o) : W p l e (rmx 7 2) s m args below meth c H locs 2 12 (gEX below args s D (xtys cI cB cZ cQ) (xcell g cI cB cZ cQ) xord g 2 false o) (F0 m 85 ls [.int t0]) := by
  unfold fX11_most_b85 at hF
  refine lv_istore (lv' := [(6, .int t0), (0, .ref (g 0)), (1, .int x1), (2, .int x2), (3, .int x3), (4, .int x4), (5, .int x5)]) C.1.1 C.1.2.1 dX11_most_85 hl (by decide) rfl (fun ls hl => ?_)
  refine lv_iload C.1.1 C.1.2.1 dX11_most_87 (lv_at hl 0 rfl) ?_
  refine lv_iload C.1.1 C.1.2.1 dX11_most_89 (lv_at hl 5 rfl) ?_
  refine lv_icmp_le (tgt := 101) C.1.1 C.1.2.1 dX11_most_91 (by decide) (fun h_z => ?_) (fun h_z => ?_)
  · rw [if_pos h_z] at hF
    exact bX11_most_101 C O Tb K20 X (lv_sub hl [1, 2, 3, 4, 5, 6] rfl) hF
  · rw [if_neg h_z] at hF
    exact bX11_most_94 C O Tb K20 X (lv_sub hl [1, 2, 3, 6, 0] rfl) hF
noncomputable def fX11_most_b78 (N : Nat) (r20 : Int32 → Int32 → Int32 → Int32 → Int32 → gS → Option (tR)) (x1 : Int32) (x2 : Int32) (x3 : Int32) (x4 : Int32) (x5 : Int32) (S : gS) : Option (tR) := fX11_most_b85 N r20 x1 x2 x3 x4 x5 (S 51 1) S
theorem bX11_most_78 {N : Nat} {r20 : Int32 → Int32 → Int32 → Int32 → Int32 → gS → Option (tR)} {x1 : Int32} {x2 : Int32} {x3 : Int32} {x4 : Int32} {x5 : Int32} {S : gS} {H : Heap} {locs : List Loc} {ls : Array Slot} {o : tR} (C : gC p s m args meth c cX11_most 7 RX11 ((some .int)) D (xtys cI cB cZ cQ) xord g Am) (O : tO l g cI cB cZ cQ Am aK aV) (Tb : ∀ x ∈ c.exceptionTable.toList, False) (K20 : ∀ (x1 : Int32) (x2 : Int32) (x3 : Int32) (x4 : Int32) (x5 : Int32) (S : gS) (H : Heap) (locs : List Loc) (ls : Array Slot), gX D (xcell g cI cB cZ cQ) xord g S s H locs → lv_has ls 7 [(0, .ref (g 0)), (1, .int x1), (2, .int x2), (3, .int x3), (4, .int x4), (5, .int x5)] → r20 x1 x2 x3 x4 x5 S = some o → W p l e (rmx 7 2) s m args below meth c H locs 2 12 (gEX below args s D (xtys cI cB cZ cQ) (xcell g cI cB cZ cQ) xord g 2 false o) (F0 m 20 ls [])) (X : gX D (xcell g cI cB cZ cQ) xord g S s H locs) (hl : lv_has ls 7 [(0, .ref (g 0)), (1, .int x1), (2, .int x2), (3, .int x3), (4, .int x4), (5, .int x5)]) (hF : fX11_most_b78 N r20 x1 x2 x3 x4 x5 S = some o) : W p l e (rmx 7 2) s m args below meth c H locs 2 12 (gEX below args s D (xtys cI cB cZ cQ) (xcell g cI cB cZ cQ) xord g 2 false o) (F0 m 78 ls []) := by
  unfold fX11_most_b78 at hF
  refine lv_aload_n C.1.1 C.1.2.1 dX11_most_78 rfl (lv_at hl 0 rfl) ?_
  refine xg_X11_36 C O.1.1 X (k := 0) rfl (j := 51) rfl dX11_most_79 ?_
  refine xg_X11_250 C O.1.1 X (k := 51) rfl dX11_most_82 ?_
  exact bX11_most_85 C O Tb K20 X (lv_sub hl [0, 1, 2, 3, 4, 5] rfl) hF
noncomputable def fX11_most_b68 (N : Nat) (r20 : Int32 → Int32 → Int32 → Int32 → Int32 → gS → Option (tR)) (x1 : Int32) (x2 : Int32) (x3 : Int32) (x4 : Int32) (x5 : Int32) (S : gS) : Option (tR) := fX11_most_b85 N r20 x1 x2 x3 x4 x5 (S 51 2) S
theorem bX11_most_68 {N : Nat} {r20 : Int32 → Int32 → Int32 → Int32 → Int32 → gS → Option (tR)} {x1 : Int32} {x2 : Int32} {x3 : Int32} {x4 : Int32} {x5 : Int32} {S : gS} {H : Heap} {locs : List Loc} {ls : Array Slot} {o : tR} (C : gC p s m args meth c cX11_most 7 RX11 ((some .int)) D (xtys cI cB cZ cQ) xord g Am) (O : tO l g cI cB cZ cQ Am aK aV) (Tb : ∀ x ∈ c.exceptionTable.toList, False) (K20 : ∀ (x1 : Int32) (x2 : Int32) (x3 : Int32) (x4 : Int32) (x5 : Int32) (S : gS) (H : Heap) (locs : List Loc) (ls : Array Slot), gX D (xcell g cI cB cZ cQ) xord g S s H locs → lv_has ls 7 [(0, .ref (g 0)), (1, .int x1), (2, .int x2), (3, .int x3), (4, .int x4), (5, .int x5)] → r20 x1 x2 x3 x4 x5 S = some o → W p l e (rmx 7 2) s m args below meth c H locs 2 12 (gEX below args s D (xtys cI cB cZ cQ) (xcell g cI cB cZ cQ) xord g 2 false o) (F0 m 20 ls [])) (X : gX D (xcell g cI cB cZ cQ) xord g S s H locs) (hl : lv_has ls 7 [(0, .ref (g 0)), (1, .int x1), (2, .int x2), (3, .int x3), (4, .int x4), (5, .int x5)]) (hF : fX11_most_b68 N r20 x1 x2 x3 x4 x5 S = some o) : W p l e (rmx 7 2) s m args below meth c H locs 2 12 (gEX below args s D (xtys cI cB cZ cQ) (xcell g cI cB cZ cQ) xord g 2 false o) (F0 m 68 ls []) := by
  unfold fX11_most_b68 at hF
  refine lv_aload_n C.1.1 C.1.2.1 dX11_most_68 rfl (lv_at hl 0 rfl) ?_
  refine xg_X11_36 C O.1.1 X (k := 0) rfl (j := 51) rfl dX11_most_69 ?_
  refine xg_X11_252 C O.1.1 X (k := 51) rfl dX11_most_72 ?_
  refine lv_goto (tgt := 85) C.1.1 C.1.2.1 dX11_most_75 (by decide) ?_
  exact bX11_most_85 C O Tb K20 X (lv_sub hl [0, 1, 2, 3, 4, 5] rfl) hF
noncomputable def fX11_most_b32 (N : Nat) (r20 : Int32 → Int32 → Int32 → Int32 → Int32 → gS → Option (tR)) (x1 : Int32) (x2 : Int32) (x3 : Int32) (x4 : Int32) (x5 : Int32) (S : gS) : Option (tR) := lt (xtw S) fun T1 => (bnd (fX10_begin N T1 21 x5 S) fun q1 => (lt (xtw q1.2) fun T2 => (bnd (fX10_passHours N T2 x1 q1.2) fun q2 => (if x2 = 0 then fX11_most_b68 N r20 x1 x2 x3 x4 x5 q2.2 else fX11_most_b78 N r20 x1 x2 x3 x4 x5 q2.2))))
theorem bX11_most_32 {N : Nat} {r20 : Int32 → Int32 → Int32 → Int32 → Int32 → gS → Option (tR)} {x1 : Int32} {x2 : Int32} {x3 : Int32} {x4 : Int32} {x5 : Int32} {S : gS} {H : Heap} {locs : List Loc} {ls : Array Slot} {o : tR} (C : gC p s m args meth c cX11_most 7 RX11 ((some .int)) D (xtys cI cB cZ cQ) xord g Am) (O : tO l g cI cB cZ cQ Am aK aV) (Tb : ∀ x ∈ c.exceptionTable.toList, False) (K20 : ∀ (x1 : Int32) (x2 : Int32) (x3 : Int32) (x4 : Int32) (x5 : Int32) (S : gS) (H : Heap) (locs : List Loc) (ls : Array Slot), gX D (xcell g cI cB cZ cQ) xord g S s H locs → lv_has ls 7 [(0, .ref (g 0)), (1, .int x1), (2, .int x2), (3, .int x3), (4, .int x4), (5, .int x5)] → r20 x1 x2 x3 x4 x5 S = some o → W p l e (rmx 7 2) s m args below meth c H locs 2 12 (gEX below args s D (xtys cI cB cZ cQ) (xcell g cI cB cZ cQ) xord g 2 false o) (F0 m 20 ls [])) (X : gX D (xcell g cI cB cZ cQ) xord g S s H locs) (hl : lv_has ls 7 [(0, .ref (g 0)), (1, .int x1), (2, .int x2), (3, .int x3), (4, .int x4), (5, .int x5)]) (hF : fX11_most_b32 N r20 x1 x2 x3 x4 x5 S = some o) : W p l e (rmx 7 2) s m args below meth c H locs 2 12 (gEX below args s D (xtys cI cB cZ cQ) (xcell g cI cB cZ cQ) xord g 2 false o) (F0 m 32 ls []) := by
  unfold fX11_most_b32 at hF
  refine lv_aload_n C.1.1 C.1.2.1 dX11_most_32 rfl (lv_at hl 0 rfl) ?_
  refine xg_X11_36 C O.1.1 X (k := 0) rfl (j := 51) rfl dX11_most_33 ?_
  refine lv_aload_n C.1.1 C.1.2.1 dX11_most_36 rfl (lv_at hl 0 rfl) ?_
  obtain ⟨T1, eT1, hF⟩ := lt_some hF
  have hk_T1 := xtw_k eT1
  refine xg_X11_57 C O.1.1 X (T := T1) eT1 (k := 0) rfl dX11_most_37 ?_
  refine lv_aload_n C.1.1 C.1.2.1 dX11_most_40 rfl (lv_at hl 0 rfl) ?_
  refine xg_X11_19 C O.1.1 X (k := 0) rfl (j := 20) rfl dX11_most_41 ?_
  refine xg_X11_105 C O.1.1 X (k := 20) rfl (j := 21) rfl dX11_most_44 ?_
  refine lv_iload C.1.1 C.1.2.1 dX11_most_47 (lv_at hl 5 rfl) ?_
  obtain ⟨q1, hq1, hF⟩ := bnd_some hF
  refine x_callV C X (k := 51) xv_X11_243 (rfl : xk 51 = 10) rfl rfl (by decide) (kX10_begin O.1.1 C.2.2.2.2.1 N T1 21 x5 (hk_T1 : xk T1 = 9) (rfl : xk 21 = 7) S q1 hq1) (Nat.le_of_ble_eq_true rfl) (Nat.le_of_ble_eq_true rfl) (Nat.le_of_ble_eq_true rfl) (Nat.le_of_ble_eq_true rfl) rfl hl.1 rfl (Nat.le_of_ble_eq_true rfl) dX11_most_49 (fun H locs X => ?_)
  refine lv_aload_n C.1.1 C.1.2.1 dX11_most_52 rfl (lv_at hl 0 rfl) ?_
  refine xg_X11_36 C O.1.1 X (k := 0) rfl (j := 51) rfl dX11_most_53 ?_
  refine lv_aload_n C.1.1 C.1.2.1 dX11_most_56 rfl (lv_at hl 0 rfl) ?_
  obtain ⟨T2, eT2, hF⟩ := lt_some hF
  have hk_T2 := xtw_k eT2
  refine xg_X11_57 C O.1.1 X (T := T2) eT2 (k := 0) rfl dX11_most_57 ?_
  refine lv_iload_n C.1.1 C.1.2.1 dX11_most_60 rfl (lv_at hl 1 rfl) ?_
  obtain ⟨q2, hq2, hF⟩ := bnd_some hF
  refine x_callV C X (k := 51) xv_X11_246 (rfl : xk 51 = 10) rfl rfl (by decide) (kX10_passHours O.1.1 C.2.2.2.2.1 N T2 x1 (hk_T2 : xk T2 = 9) q1.2 q2 hq2) (Nat.le_of_ble_eq_true rfl) (Nat.le_of_ble_eq_true rfl) (Nat.le_of_ble_eq_true rfl) (Nat.le_of_ble_eq_true rfl) rfl hl.1 rfl (Nat.le_of_ble_eq_true rfl) dX11_most_61 (fun H locs X => ?_)
  refine lv_iload_n C.1.1 C.1.2.1 dX11_most_64 rfl (lv_at hl 2 rfl) ?_
  refine lv_if_ne (tgt := 78) C.1.1 C.1.2.1 dX11_most_65 (by decide) (fun h_z => ?_) (fun h_z => ?_)
  · rw [if_neg h_z] at hF
    exact bX11_most_78 C O Tb K20 X (lv_sub hl [0, 1, 2, 3, 4, 5] rfl) hF
  · rw [if_pos h_z] at hF
    exact bX11_most_68 C O Tb K20 X (lv_sub hl [0, 1, 2, 3, 4, 5] rfl) hF
noncomputable def fX11_most_b20 (N : Nat) (r20 : Int32 → Int32 → Int32 → Int32 → Int32 → gS → Option (tR)) (x1 : Int32) (x2 : Int32) (x3 : Int32) (x4 : Int32) (x5 : Int32) (S : gS) : Option (tR) := lt (xtw S) fun T1 => (if (S T1 5) ≤ x5 then fX11_most_b107 N x3 S else fX11_most_b32 N r20 x1 x2 x3 x4 x5 S)
theorem bX11_most_20 {N : Nat} {r20 : Int32 → Int32 → Int32 → Int32 → Int32 → gS → Option (tR)} {x1 : Int32} {x2 : Int32} {x3 : Int32} {x4 : Int32} {x5 : Int32} {S : gS} {H : Heap} {locs : List Loc} {ls : Array Slot} {o : tR} (C : gC p s m args meth c cX11_most 7 RX11 ((some .int)) D (xtys cI cB cZ cQ) xord g Am) (O : tO l g cI cB cZ cQ Am aK aV) (Tb : ∀ x ∈ c.exceptionTable.toList, False) (K20 : ∀ (x1 : Int32) (x2 : Int32) (x3 : Int32) (x4 : Int32) (x5 : Int32) (S : gS) (H : Heap) (locs : List Loc) (ls : Array Slot), gX D (xcell g cI cB cZ cQ) xord g S s H locs → lv_has ls 7 [(0, .ref (g 0)), (1, .int x1), (2, .int x2), (3, .int x3), (4, .int x4), (5, .int x5)] → r20 x1 x2 x3 x4 x5 S = some o → W p l e (rmx 7 2) s m args below meth c H locs 2 12 (gEX below args s D (xtys cI cB cZ cQ) (xcell g cI cB cZ cQ) xord g 2 false o) (F0 m 20 ls [])) (X : gX D (xcell g cI cB cZ cQ) xord g S s H locs) (hl : lv_has ls 7 [(0, .ref (g 0)), (1, .int x1), (2, .int x2), (3, .int x3), (4, .int x4), (5, .int x5)]) (hF : fX11_most_b20 N r20 x1 x2 x3 x4 x5 S = some o) : W p l e (rmx 7 2) s m args below meth c H locs 2 12 (gEX below args s D (xtys cI cB cZ cQ) (xcell g cI cB cZ cQ) xord g 2 false o) (F0 m 20 ls []) := by
  unfold fX11_most_b20 at hF
  refine lv_iload C.1.1 C.1.2.1 dX11_most_20 (lv_at hl 5 rfl) ?_
  refine lv_aload_n C.1.1 C.1.2.1 dX11_most_22 rfl (lv_at hl 0 rfl) ?_
  obtain ⟨T1, eT1, hF⟩ := lt_some hF
  have hk_T1 := xtw_k eT1
  refine xg_X11_57 C O.1.1 X (T := T1) eT1 (k := 0) rfl dX11_most_23 ?_
  refine xg_X11_111 C O.1.1 X (k := T1) hk_T1 dX11_most_26 ?_
  refine lv_icmp_ge (tgt := 107) C.1.1 C.1.2.1 dX11_most_29 (by decide) (fun h_z => ?_) (fun h_z => ?_)
  · rw [if_pos h_z] at hF
    exact bX11_most_107 C O Tb X (lv_sub hl [3] rfl) hF
  · rw [if_neg h_z] at hF
    exact bX11_most_32 C O Tb K20 X (lv_sub hl [0, 1, 2, 3, 4, 5] rfl) hF
noncomputable def fX11_most_h20 (N : Nat) : Nat → Int32 → Int32 → Int32 → Int32 → Int32 → gS → Option (tR)
  | 0, _, _, _, _, _, _ => none
  | n + 1, x1, x2, x3, x4, x5, S => fX11_most_b20 N (fX11_most_h20 N n) x1 x2 x3 x4 x5 S
theorem hX11_most_20 {N : Nat} {o : tR} (C : gC p s m args meth c cX11_most 7 RX11 ((some .int)) D (xtys cI cB cZ cQ) xord g Am) (O : tO l g cI cB cZ cQ Am aK aV) (Tb : ∀ x ∈ c.exceptionTable.toList, False) : ∀ (n : Nat) (x1 : Int32) (x2 : Int32) (x3 : Int32) (x4 : Int32) (x5 : Int32) (S : gS) (H : Heap) (locs : List Loc) (ls : Array Slot), gX D (xcell g cI cB cZ cQ) xord g S s H locs → lv_has ls 7 [(0, .ref (g 0)), (1, .int x1), (2, .int x2), (3, .int x3), (4, .int x4), (5, .int x5)] → fX11_most_h20 N n x1 x2 x3 x4 x5 S = some o → W p l e (rmx 7 2) s m args below meth c H locs 2 12 (gEX below args s D (xtys cI cB cZ cQ) (xcell g cI cB cZ cQ) xord g 2 false o) (F0 m 20 ls []) := by
  intro n
  induction n with
  | zero =>
    intro x1 x2 x3 x4 x5 S H locs ls X hl hF
    exact absurd (show (none : Option (tR)) = some o from hF) (by simp)
  | succ n ih =>
    intro x1 x2 x3 x4 x5 S H locs ls X hl hF
    have hF : fX11_most_b20 N (fX11_most_h20 N n) x1 x2 x3 x4 x5 S = some o := hF
    exact bX11_most_20 C O Tb ih X hl hF
noncomputable def fX11_most_b0 (N : Nat) (x1 : Int32) (x2 : Int32) (S : gS) : Option (tR) := bnx (fX11_needWhat N x2 1 S) fun q1 => (bnx (fX11_needWithin N x1 0 60 q1.2.2) fun q2 => (fX11_most_h20 N N x1 x2 ((-1)) ((-1)) 0 q2.2.2))
theorem bX11_most_0 {N : Nat} {x1 : Int32} {x2 : Int32} {S : gS} {H : Heap} {locs : List Loc} {ls : Array Slot} {o : tR} (C : gC p s m args meth c cX11_most 7 RX11 ((some .int)) D (xtys cI cB cZ cQ) xord g Am) (O : tO l g cI cB cZ cQ Am aK aV) (Tb : ∀ x ∈ c.exceptionTable.toList, False) (X : gX D (xcell g cI cB cZ cQ) xord g S s H locs) (hl : lv_has ls 7 [(0, .ref (g 0)), (1, .int x1), (2, .int x2)]) (hF : fX11_most_b0 N x1 x2 S = some o) : W p l e (rmx 7 2) s m args below meth c H locs 0 0 (gEX below args s D (xtys cI cB cZ cQ) (xcell g cI cB cZ cQ) xord g 2 false o) (F0 m 0 ls []) := by
  unfold fX11_most_b0 at hF
  refine lv_iload_n C.1.1 C.1.2.1 dX11_most_0 rfl (lv_at hl 2 rfl) ?_
  refine lv_iconst (v := 1) C.1.1 C.1.2.1 dX11_most_1 (by decide) ?_
  rcases (bnx_some hF).symm with ⟨q1, hq1, zq1, eo⟩ | ⟨q1, hq1, zq1, hF⟩
  · subst eo
    exact t_thr (t_preS C X xv_X11_236 (kX11_needWhat O C.2.2.2.2.1 N x2 1 S q1 hq1) (Nat.le_of_ble_eq_true rfl) (Nat.le_of_ble_eq_true rfl) (Nat.le_of_ble_eq_true rfl) (Nat.le_of_ble_eq_true rfl) rfl hl.1 rfl (Nat.le_of_ble_eq_true rfl) dX11_most_2) zq1 C Tb X (by decide) (by decide)
  refine t_okv (t_preS C X xv_X11_236 (kX11_needWhat O C.2.2.2.2.1 N x2 1 S q1 hq1) (Nat.le_of_ble_eq_true rfl) (Nat.le_of_ble_eq_true rfl) (Nat.le_of_ble_eq_true rfl) (Nat.le_of_ble_eq_true rfl) rfl hl.1 rfl (Nat.le_of_ble_eq_true rfl) dX11_most_2) zq1 X (fun H locs X => ?_)
  refine W.widen (k := 1) (n := 6) (by decide) (by decide) ?_
  refine lv_iload_n C.1.1 C.1.2.1 dX11_most_5 rfl (lv_at hl 1 rfl) ?_
  refine lv_iconst (v := 0) C.1.1 C.1.2.1 dX11_most_6 (by decide) ?_
  refine lv_bipush (v := 60) C.1.1 C.1.2.1 dX11_most_7 (by decide) ?_
  rcases (bnx_some hF).symm with ⟨q2, hq2, zq2, eo⟩ | ⟨q2, hq2, zq2, hF⟩
  · subst eo
    exact t_thr (t_preS C X xv_X11_239 (kX11_needWithin O C.2.2.2.2.1 N x1 0 60 q1.2.2 q2 hq2) (Nat.le_of_ble_eq_true rfl) (Nat.le_of_ble_eq_true rfl) (Nat.le_of_ble_eq_true rfl) (Nat.le_of_ble_eq_true rfl) rfl hl.1 rfl (Nat.le_of_ble_eq_true rfl) dX11_most_9) zq2 C Tb X (by decide) (by decide)
  refine t_okv (t_preS C X xv_X11_239 (kX11_needWithin O C.2.2.2.2.1 N x1 0 60 q1.2.2 q2 hq2) (Nat.le_of_ble_eq_true rfl) (Nat.le_of_ble_eq_true rfl) (Nat.le_of_ble_eq_true rfl) (Nat.le_of_ble_eq_true rfl) rfl hl.1 rfl (Nat.le_of_ble_eq_true rfl) dX11_most_9) zq2 X (fun H locs X => ?_)
  refine W.widen (k := 2) (n := 12) (by decide) (by decide) ?_
  refine lv_iconst (v := (-1)) C.1.1 C.1.2.1 dX11_most_12 (by decide) ?_
  refine lv_istore_n (lv' := [(3, .int ((-1))), (0, .ref (g 0)), (1, .int x1), (2, .int x2)]) C.1.1 C.1.2.1 dX11_most_13 rfl hl (by decide) rfl (fun ls hl => ?_)
  refine lv_iconst (v := (-1)) C.1.1 C.1.2.1 dX11_most_14 (by decide) ?_
  refine lv_istore (lv' := [(4, .int ((-1))), (3, .int ((-1))), (0, .ref (g 0)), (1, .int x1), (2, .int x2)]) C.1.1 C.1.2.1 dX11_most_15 hl (by decide) rfl (fun ls hl => ?_)
  refine lv_iconst (v := 0) C.1.1 C.1.2.1 dX11_most_17 (by decide) ?_
  refine lv_istore (lv' := [(5, .int 0), (4, .int ((-1))), (3, .int ((-1))), (0, .ref (g 0)), (1, .int x1), (2, .int x2)]) C.1.1 C.1.2.1 dX11_most_18 hl (by decide) rfl (fun ls hl => ?_)
  exact hX11_most_20 C O Tb N _ _ _ _ _ _ _ _ _ X (lv_sub hl [3, 4, 5, 2, 1, 0] rfl) hF
noncomputable def fX11_most (N : Nat) (x1 : Int32) (x2 : Int32) (S : gS) : Option (tR) := fX11_most_b0 N x1 x2 S
theorem kX11_most {l : Launch} {D : va_G} {g : Nat → Nat} {cI cB cZ cQ : ClassId} {Am : (Nat → Prop) → State → Heap → Prop} {aK aV : Nat → Nat} (O : tO l g cI cB cZ cQ Am aK aV) (P : gAm Am) (N : Nat) (x1 : Int32) (x2 : Int32) (S : gS) (o : tR) (hF : fX11_most N x1 x2 S = some o) : gN l yX11_most cX11_most 7 ((some .int)) 7 2 D (xtys cI cB cZ cQ) (xcell g cI cB cZ cQ) xord g Am [.ref (g 0), .int x1, .int x2] S false o :=
  gN_of P (by decide) (Nat.le_of_ble_eq_true rfl) (fun p e s m args below meth c ls C Tb X hl => bX11_most_0 C O Tb X (lv_sub hl [0, 1, 2] rfl) hF)
-- X11.hush
noncomputable def fX11_hush_b49 (N : Nat) (x2 : Int32) (S : gS) : Option (tR) := some (0, x2, S)
theorem bX11_hush_49 {N : Nat} {x2 : Int32} {S : gS} {H : Heap} {locs : List Loc} {ls : Array Slot} {o : tR} (C : gC p s m args meth c cX11_hush 5 RX11 ((some .int)) D (xtys cI cB cZ cQ) xord g Am) (O : tO l g cI cB cZ cQ Am aK aV) (Tb : ∀ x ∈ c.exceptionTable.toList, False) (X : gX D (xcell g cI cB cZ cQ) xord g S s H locs) (hl : lv_has ls 5 [(2, .int x2)]) (hF : fX11_hush_b49 N x2 S = some o) : W p l e (rmx 7 1) s m args below meth c H locs 1 6 (gEX below args s D (xtys cI cB cZ cQ) (xcell g cI cB cZ cQ) xord g 1 false o) (F0 m 49 ls []) := by
  unfold fX11_hush_b49 at hF
  refine lv_iload_n C.1.1 C.1.2.1 dX11_hush_49 rfl (lv_at hl 0 rfl) ?_
  cases hF
  exact t_iret C X (by decide) (by decide) dX11_hush_50
noncomputable def fX11_hush_b36 (N : Nat) (r14 : Int32 → Int32 → Int32 → Int32 → gS → Option (tR)) (x1 : Int32) (x2 : Int32) (x4 : Int32) (t0 : Int32) (S : gS) : Option (tR) := r14 x1 (if x2 < t0 then t0 else x2) t0 ((x4 + 1 : Int32)) S
theorem bX11_hush_36 {N : Nat} {r14 : Int32 → Int32 → Int32 → Int32 → gS → Option (tR)} {x1 : Int32} {x2 : Int32} {x4 : Int32} {t0 : Int32} {S : gS} {H : Heap} {locs : List Loc} {ls : Array Slot} {o : tR} (C : gC p s m args meth c cX11_hush 5 RX11 ((some .int)) D (xtys cI cB cZ cQ) xord g Am) (O : tO l g cI cB cZ cQ Am aK aV) (Tb : ∀ x ∈ c.exceptionTable.toList, False) (K14 : ∀ (x1 : Int32) (x2 : Int32) (x3 : Int32) (x4 : Int32) (S : gS) (H : Heap) (locs : List Loc) (ls : Array Slot), gX D (xcell g cI cB cZ cQ) xord g S s H locs → lv_has ls 5 [(0, .ref (g 0)), (1, .int x1), (2, .int x2), (3, .int x3), (4, .int x4)] → r14 x1 x2 x3 x4 S = some o → W p l e (rmx 7 1) s m args below meth c H locs 1 6 (gEX below args s D (xtys cI cB cZ cQ) (xcell g cI cB cZ cQ) xord g 1 false o) (F0 m 14 ls [])) (X : gX D (xcell g cI cB cZ cQ) xord g S s H locs) (hl : lv_has ls 5 [(0, .ref (g 0)), (1, .int x1), (2, .int x2), (4, .int x4)]) (hF : fX11_hush_b36 N r14 x1 x2 x4 t0 S = some o) : W p l e (rmx 7 1) s m args below meth c H locs 1 6 (gEX below args s D (xtys cI cB cZ cQ) (xcell g cI cB cZ cQ) xord g 1 false o) (F0 m 36 ls [.int t0]) := by
  unfold fX11_hush_b36 at hF
  refine lv_istore_n (lv' := [(3, .int t0), (0, .ref (g 0)), (1, .int x1), (2, .int x2), (4, .int x4)]) C.1.1 C.1.2.1 dX11_hush_36 rfl hl (by decide) rfl (fun ls hl => ?_)
  refine lv_iload_n C.1.1 C.1.2.1 dX11_hush_37 rfl (lv_at hl 3 rfl) ?_
  refine lv_iload_n C.1.1 C.1.2.1 dX11_hush_38 rfl (lv_at hl 0 rfl) ?_
  refine g_max C hl.1 xMmax_X11_265 ⟨(Nat.le_of_ble_eq_true rfl), (Nat.le_of_ble_eq_true rfl)⟩ (Nat.le_of_ble_eq_true rfl) (Nat.le_of_ble_eq_true rfl) dX11_hush_39 ?_
  refine lv_istore_n (lv' := [(2, .int (if x2 < t0 then t0 else x2)), (3, .int t0), (0, .ref (g 0)), (1, .int x1), (4, .int x4)]) C.1.1 C.1.2.1 dX11_hush_42 rfl hl (by decide) rfl (fun ls hl => ?_)
  refine lv_iinc (v := (x4 + 1 : Int32)) (lv' := [(4, .int ((x4 + 1 : Int32))), (2, .int (if x2 < t0 then t0 else x2)), (3, .int t0), (0, .ref (g 0)), (1, .int x1)]) C.1.1 C.1.2.1 dX11_hush_43 hl (k := 4) rfl rfl (by decide) rfl (fun ls hl => ?_)
  refine lv_goto (tgt := 14) C.1.1 C.1.2.1 dX11_hush_46 (by decide) ?_
  exact K14 _ _ _ _ _ _ _ _ X (lv_sub hl [3, 4, 1, 2, 0] rfl) hF
noncomputable def fX11_hush_b35 (N : Nat) (r14 : Int32 → Int32 → Int32 → Int32 → gS → Option (tR)) (x1 : Int32) (x2 : Int32) (x4 : Int32) (S : gS) : Option (tR) := fX11_hush_b36 N r14 x1 x2 x4 0 S
theorem bX11_hush_35 {N : Nat} {r14 : Int32 → Int32 → Int32 → Int32 → gS → Option (tR)} {x1 : Int32} {x2 : Int32} {x4 : Int32} {S : gS} {H : Heap} {locs : List Loc} {ls : Array Slot} {o : tR} (C : gC p s m args meth c cX11_hush 5 RX11 ((some .int)) D (xtys cI cB cZ cQ) xord g Am) (O : tO l g cI cB cZ cQ Am aK aV) (Tb : ∀ x ∈ c.exceptionTable.toList, False) (K14 : ∀ (x1 : Int32) (x2 : Int32) (x3 : Int32) (x4 : Int32) (S : gS) (H : Heap) (locs : List Loc) (ls : Array Slot), gX D (xcell g cI cB cZ cQ) xord g S s H locs → lv_has ls 5 [(0, .ref (g 0)), (1, .int x1), (2, .int x2), (3, .int x3), (4, .int x4)] → r14 x1 x2 x3 x4 S = some o → W p l e (rmx 7 1) s m args below meth c H locs 1 6 (gEX below args s D (xtys cI cB cZ cQ) (xcell g cI cB cZ cQ) xord g 1 false o) (F0 m 14 ls [])) (X : gX D (xcell g cI cB cZ cQ) xord g S s H locs) (hl : lv_has ls 5 [(0, .ref (g 0)), (1, .int x1), (2, .int x2), (4, .int x4)]) (hF : fX11_hush_b35 N r14 x1 x2 x4 S = some o) : W p l e (rmx 7 1) s m args below meth c H locs 1 6 (gEX below args s D (xtys cI cB cZ cQ) (xcell g cI cB cZ cQ) xord g 1 false o) (F0 m 35 ls []) := by
  unfold fX11_hush_b35 at hF
  refine lv_iconst (v := 0) C.1.1 C.1.2.1 dX11_hush_35 (by decide) ?_
  exact bX11_hush_36 C O Tb K14 X (lv_sub hl [0, 1, 2, 3] rfl) hF
noncomputable def fX11_hush_b29 (N : Nat) (r14 : Int32 → Int32 → Int32 → Int32 → gS → Option (tR)) (x1 : Int32) (x2 : Int32) (x3 : Int32) (x4 : Int32) (S : gS) : Option (tR) := fX11_hush_b36 N r14 x1 x2 x4 ((x3 + 1 : Int32)) S
theorem bX11_hush_29 {N : Nat} {r14 : Int32 → Int32 → Int32 → Int32 → gS → Option (tR)} {x1 : Int32} {x2 : Int32} {x3 : Int32} {x4 : Int32} {S : gS} {H : Heap} {locs : List Loc} {ls : Array Slot} {o : tR} (C : gC p s m args meth c cX11_hush 5 RX11 ((some .int)) D (xtys cI cB cZ cQ) xord g Am) (O : tO l g cI cB cZ cQ Am aK aV) (Tb : ∀ x ∈ c.exceptionTable.toList, False) (K14 : ∀ (x1 : Int32) (x2 : Int32) (x3 : Int32) (x4 : Int32) (S : gS) (H : Heap) (locs : List Loc) (ls : Array Slot), gX D (xcell g cI cB cZ cQ) xord g S s H locs → lv_has ls 5 [(0, .ref (g 0)), (1, .int x1), (2, .int x2), (3, .int x3), (4, .int x4)] → r14 x1 x2 x3 x4 S = some o → W p l e (rmx 7 1) s m args below meth c H locs 1 6 (gEX below args s D (xtys cI cB cZ cQ) (xcell g cI cB cZ cQ) xord g 1 false o) (F0 m 14 ls [])) (X : gX D (xcell g cI cB cZ cQ) xord g S s H locs) (hl : lv_has ls 5 [(0, .ref (g 0)), (1, .int x1), (2, .int x2), (3, .int x3), (4, .int x4)]) (hF : fX11_hush_b29 N r14 x1 x2 x3 x4 S = some o) : W p l e (rmx 7 1) s m args below meth c H locs 1 6 (gEX below args s D (xtys cI cB cZ cQ) (xcell g cI cB cZ cQ) xord g 1 false o) (F0 m 29 ls []) := by
  unfold fX11_hush_b29 at hF
  refine lv_iload_n C.1.1 C.1.2.1 dX11_hush_29 rfl (lv_at hl 3 rfl) ?_
  refine lv_iconst (v := 1) C.1.1 C.1.2.1 dX11_hush_30 (by decide) ?_
  refine lv_iadd C.1.1 C.1.2.1 dX11_hush_31 ?_
  refine lv_goto (tgt := 36) C.1.1 C.1.2.1 dX11_hush_32 (by decide) ?_
  exact bX11_hush_36 C O Tb K14 X (lv_sub hl [0, 1, 2, 4] rfl) hF
noncomputable def fX11_hush_b20 (N : Nat) (r14 : Int32 → Int32 → Int32 → Int32 → gS → Option (tR)) (x1 : Int32) (x2 : Int32) (x3 : Int32) (x4 : Int32) (S : gS) : Option (tR) := bnd (fX11_dripBits N x4 S) fun q1 => (if q1.1 = 0 then fX11_hush_b29 N r14 x1 x2 x3 x4 q1.2 else fX11_hush_b35 N r14 x1 x2 x4 q1.2)
theorem bX11_hush_20 {N : Nat} {r14 : Int32 → Int32 → Int32 → Int32 → gS → Option (tR)} {x1 : Int32} {x2 : Int32} {x3 : Int32} {x4 : Int32} {S : gS} {H : Heap} {locs : List Loc} {ls : Array Slot} {o : tR} (C : gC p s m args meth c cX11_hush 5 RX11 ((some .int)) D (xtys cI cB cZ cQ) xord g Am) (O : tO l g cI cB cZ cQ Am aK aV) (Tb : ∀ x ∈ c.exceptionTable.toList, False) (K14 : ∀ (x1 : Int32) (x2 : Int32) (x3 : Int32) (x4 : Int32) (S : gS) (H : Heap) (locs : List Loc) (ls : Array Slot), gX D (xcell g cI cB cZ cQ) xord g S s H locs → lv_has ls 5 [(0, .ref (g 0)), (1, .int x1), (2, .int x2), (3, .int x3), (4, .int x4)] → r14 x1 x2 x3 x4 S = some o → W p l e (rmx 7 1) s m args below meth c H locs 1 6 (gEX below args s D (xtys cI cB cZ cQ) (xcell g cI cB cZ cQ) xord g 1 false o) (F0 m 14 ls [])) (X : gX D (xcell g cI cB cZ cQ) xord g S s H locs) (hl : lv_has ls 5 [(0, .ref (g 0)), (1, .int x1), (2, .int x2), (3, .int x3), (4, .int x4)]) (hF : fX11_hush_b20 N r14 x1 x2 x3 x4 S = some o) : W p l e (rmx 7 1) s m args below meth c H locs 1 6 (gEX below args s D (xtys cI cB cZ cQ) (xcell g cI cB cZ cQ) xord g 1 false o) (F0 m 20 ls []) := by
  unfold fX11_hush_b20 at hF
  refine lv_aload_n C.1.1 C.1.2.1 dX11_hush_20 rfl (lv_at hl 0 rfl) ?_
  refine lv_iload C.1.1 C.1.2.1 dX11_hush_21 (lv_at hl 4 rfl) ?_
  obtain ⟨q1, hq1, hF⟩ := bnd_some hF
  refine x_callVi C X (k := 0) xv_X11_258 (rfl : xk 0 = 11) rfl rfl (by decide) (kX11_dripBits O.1.1 C.2.2.2.2.1 N x4 S q1 hq1) (Nat.le_of_ble_eq_true rfl) (Nat.le_of_ble_eq_true rfl) (Nat.le_of_ble_eq_true rfl) (Nat.le_of_ble_eq_true rfl) rfl hl.1 rfl (Nat.le_of_ble_eq_true rfl) dX11_hush_23 (fun H locs X => ?_)
  refine lv_if_ne (tgt := 35) C.1.1 C.1.2.1 dX11_hush_26 (by decide) (fun h_z => ?_) (fun h_z => ?_)
  · rw [if_neg h_z] at hF
    exact bX11_hush_35 C O Tb K14 X (lv_sub hl [0, 1, 2, 4] rfl) hF
  · rw [if_pos h_z] at hF
    exact bX11_hush_29 C O Tb K14 X (lv_sub hl [0, 1, 2, 3, 4] rfl) hF
noncomputable def fX11_hush_b14 (N : Nat) (r14 : Int32 → Int32 → Int32 → Int32 → gS → Option (tR)) (x1 : Int32) (x2 : Int32) (x3 : Int32) (x4 : Int32) (S : gS) : Option (tR) := if x1 < x4 then fX11_hush_b49 N x2 S else fX11_hush_b20 N r14 x1 x2 x3 x4 S
theorem bX11_hush_14 {N : Nat} {r14 : Int32 → Int32 → Int32 → Int32 → gS → Option (tR)} {x1 : Int32} {x2 : Int32} {x3 : Int32} {x4 : Int32} {S : gS} {H : Heap} {locs : List Loc} {ls : Array Slot} {o : tR} (C : gC p s m args meth c cX11_hush 5 RX11 ((some .int)) D (xtys cI cB cZ cQ) xord g Am) (O : tO l g cI cB cZ cQ Am aK aV) (Tb : ∀ x ∈ c.exceptionTable.toList, False) (K14 : ∀ (x1 : Int32) (x2 : Int32) (x3 : Int32) (x4 : Int32) (S : gS) (H : Heap) (locs : List Loc) (ls : Array Slot), gX D (xcell g cI cB cZ cQ) xord g S s H locs → lv_has ls 5 [(0, .ref (g 0)), (1, .int x1), (2, .int x2), (3, .int x3), (4, .int x4)] → r14 x1 x2 x3 x4 S = some o → W p l e (rmx 7 1) s m args below meth c H locs 1 6 (gEX below args s D (xtys cI cB cZ cQ) (xcell g cI cB cZ cQ) xord g 1 false o) (F0 m 14 ls [])) (X : gX D (xcell g cI cB cZ cQ) xord g S s H locs) (hl : lv_has ls 5 [(0, .ref (g 0)), (1, .int x1), (2, .int x2), (3, .int x3), (4, .int x4)]) (hF : fX11_hush_b14 N r14 x1 x2 x3 x4 S = some o) : W p l e (rmx 7 1) s m args below meth c H locs 1 6 (gEX below args s D (xtys cI cB cZ cQ) (xcell g cI cB cZ cQ) xord g 1 false o) (F0 m 14 ls []) := by
  unfold fX11_hush_b14 at hF
  refine lv_iload C.1.1 C.1.2.1 dX11_hush_14 (lv_at hl 4 rfl) ?_
  refine lv_iload_n C.1.1 C.1.2.1 dX11_hush_16 rfl (lv_at hl 1 rfl) ?_
  refine lv_icmp_gt (tgt := 49) C.1.1 C.1.2.1 dX11_hush_17 (by decide) (fun h_z => ?_) (fun h_z => ?_)
  · rw [if_pos h_z] at hF
    exact bX11_hush_49 C O Tb X (lv_sub hl [2] rfl) hF
  · rw [if_neg h_z] at hF
    exact bX11_hush_20 C O Tb K14 X (lv_sub hl [0, 1, 2, 3, 4] rfl) hF
noncomputable def fX11_hush_h14 (N : Nat) : Nat → Int32 → Int32 → Int32 → Int32 → gS → Option (tR)
  | 0, _, _, _, _, _ => none
  | n + 1, x1, x2, x3, x4, S => fX11_hush_b14 N (fX11_hush_h14 N n) x1 x2 x3 x4 S
theorem hX11_hush_14 {N : Nat} {o : tR} (C : gC p s m args meth c cX11_hush 5 RX11 ((some .int)) D (xtys cI cB cZ cQ) xord g Am) (O : tO l g cI cB cZ cQ Am aK aV) (Tb : ∀ x ∈ c.exceptionTable.toList, False) : ∀ (n : Nat) (x1 : Int32) (x2 : Int32) (x3 : Int32) (x4 : Int32) (S : gS) (H : Heap) (locs : List Loc) (ls : Array Slot), gX D (xcell g cI cB cZ cQ) xord g S s H locs → lv_has ls 5 [(0, .ref (g 0)), (1, .int x1), (2, .int x2), (3, .int x3), (4, .int x4)] → fX11_hush_h14 N n x1 x2 x3 x4 S = some o → W p l e (rmx 7 1) s m args below meth c H locs 1 6 (gEX below args s D (xtys cI cB cZ cQ) (xcell g cI cB cZ cQ) xord g 1 false o) (F0 m 14 ls []) := by
  intro n
  induction n with
  | zero =>
    intro x1 x2 x3 x4 S H locs ls X hl hF
    exact absurd (show (none : Option (tR)) = some o from hF) (by simp)
  | succ n ih =>
    intro x1 x2 x3 x4 S H locs ls X hl hF
    have hF : fX11_hush_b14 N (fX11_hush_h14 N n) x1 x2 x3 x4 S = some o := hF
    exact bX11_hush_14 C O Tb ih X hl hF
noncomputable def fX11_hush_b0 (N : Nat) (x1 : Int32) (S : gS) : Option (tR) := bnx (fX11_needWithin N x1 1 60 S) fun q1 => (fX11_hush_h14 N N x1 0 0 1 q1.2.2)
theorem bX11_hush_0 {N : Nat} {x1 : Int32} {S : gS} {H : Heap} {locs : List Loc} {ls : Array Slot} {o : tR} (C : gC p s m args meth c cX11_hush 5 RX11 ((some .int)) D (xtys cI cB cZ cQ) xord g Am) (O : tO l g cI cB cZ cQ Am aK aV) (Tb : ∀ x ∈ c.exceptionTable.toList, False) (X : gX D (xcell g cI cB cZ cQ) xord g S s H locs) (hl : lv_has ls 5 [(0, .ref (g 0)), (1, .int x1)]) (hF : fX11_hush_b0 N x1 S = some o) : W p l e (rmx 7 1) s m args below meth c H locs 0 0 (gEX below args s D (xtys cI cB cZ cQ) (xcell g cI cB cZ cQ) xord g 1 false o) (F0 m 0 ls []) := by
  unfold fX11_hush_b0 at hF
  refine lv_iload_n C.1.1 C.1.2.1 dX11_hush_0 rfl (lv_at hl 1 rfl) ?_
  refine lv_iconst (v := 1) C.1.1 C.1.2.1 dX11_hush_1 (by decide) ?_
  refine lv_bipush (v := 60) C.1.1 C.1.2.1 dX11_hush_2 (by decide) ?_
  rcases (bnx_some hF).symm with ⟨q1, hq1, zq1, eo⟩ | ⟨q1, hq1, zq1, hF⟩
  · subst eo
    exact t_thr (t_preS C X xv_X11_239 (kX11_needWithin O C.2.2.2.2.1 N x1 1 60 S q1 hq1) (Nat.le_of_ble_eq_true rfl) (Nat.le_of_ble_eq_true rfl) (Nat.le_of_ble_eq_true rfl) (Nat.le_of_ble_eq_true rfl) rfl hl.1 rfl (Nat.le_of_ble_eq_true rfl) dX11_hush_4) zq1 C Tb X (by decide) (by decide)
  refine t_okv (t_preS C X xv_X11_239 (kX11_needWithin O C.2.2.2.2.1 N x1 1 60 S q1 hq1) (Nat.le_of_ble_eq_true rfl) (Nat.le_of_ble_eq_true rfl) (Nat.le_of_ble_eq_true rfl) (Nat.le_of_ble_eq_true rfl) rfl hl.1 rfl (Nat.le_of_ble_eq_true rfl) dX11_hush_4) zq1 X (fun H locs X => ?_)
  refine W.widen (k := 1) (n := 6) (by decide) (by decide) ?_
  refine lv_iconst (v := 0) C.1.1 C.1.2.1 dX11_hush_7 (by decide) ?_
  refine lv_istore_n (lv' := [(2, .int 0), (0, .ref (g 0)), (1, .int x1)]) C.1.1 C.1.2.1 dX11_hush_8 rfl hl (by decide) rfl (fun ls hl => ?_)
  refine lv_iconst (v := 0) C.1.1 C.1.2.1 dX11_hush_9 (by decide) ?_
  refine lv_istore_n (lv' := [(3, .int 0), (2, .int 0), (0, .ref (g 0)), (1, .int x1)]) C.1.1 C.1.2.1 dX11_hush_10 rfl hl (by decide) rfl (fun ls hl => ?_)
  refine lv_iconst (v := 1) C.1.1 C.1.2.1 dX11_hush_11 (by decide) ?_
  refine lv_istore (lv' := [(4, .int 1), (3, .int 0), (2, .int 0), (0, .ref (g 0)), (1, .int x1)]) C.1.1 C.1.2.1 dX11_hush_12 hl (by decide) rfl (fun ls hl => ?_)
  exact hX11_hush_14 C O Tb N _ _ _ _ _ _ _ _ X (lv_sub hl [3, 4, 2, 1, 0] rfl) hF
noncomputable def fX11_hush (N : Nat) (x1 : Int32) (S : gS) : Option (tR) := fX11_hush_b0 N x1 S
theorem kX11_hush {l : Launch} {D : va_G} {g : Nat → Nat} {cI cB cZ cQ : ClassId} {Am : (Nat → Prop) → State → Heap → Prop} {aK aV : Nat → Nat} (O : tO l g cI cB cZ cQ Am aK aV) (P : gAm Am) (N : Nat) (x1 : Int32) (S : gS) (o : tR) (hF : fX11_hush N x1 S = some o) : gN l yX11_hush cX11_hush 5 ((some .int)) 7 1 D (xtys cI cB cZ cQ) (xcell g cI cB cZ cQ) xord g Am [.ref (g 0), .int x1] S false o :=
  gN_of P (by decide) (Nat.le_of_ble_eq_true rfl) (fun p e s m args below meth c ls C Tb X hl => bX11_hush_0 C O Tb X (lv_sub hl [0, 1] rfl) hF)
-- X11.chorus
noncomputable def fX11_chorus_b49 (N : Nat) (x2 : Int32) (S : gS) : Option (tR) := some (0, x2, S)
theorem bX11_chorus_49 {N : Nat} {x2 : Int32} {S : gS} {H : Heap} {locs : List Loc} {ls : Array Slot} {o : tR} (C : gC p s m args meth c cX11_chorus 6 RX11 ((some .int)) D (xtys cI cB cZ cQ) xord g Am) (O : tO l g cI cB cZ cQ Am aK aV) (Tb : ∀ x ∈ c.exceptionTable.toList, False) (X : gX D (xcell g cI cB cZ cQ) xord g S s H locs) (hl : lv_has ls 6 [(2, .int x2)]) (hF : fX11_chorus_b49 N x2 S = some o) : W p l e (rmx 7 1) s m args below meth c H locs 1 6 (gEX below args s D (xtys cI cB cZ cQ) (xcell g cI cB cZ cQ) xord g 1 false o) (F0 m 49 ls []) := by
  unfold fX11_chorus_b49 at hF
  refine lv_iload_n C.1.1 C.1.2.1 dX11_chorus_49 rfl (lv_at hl 0 rfl) ?_
  cases hF
  exact t_iret C X (by decide) (by decide) dX11_chorus_50
noncomputable def fX11_chorus_b43 (N : Nat) (r14 : Int32 → Int32 → Int32 → Int32 → gS → Option (tR)) (x1 : Int32) (x2 : Int32) (x3 : Int32) (x4 : Int32) (S : gS) : Option (tR) := r14 x1 x2 x3 ((x4 + 1 : Int32)) S
theorem bX11_chorus_43 {N : Nat} {r14 : Int32 → Int32 → Int32 → Int32 → gS → Option (tR)} {x1 : Int32} {x2 : Int32} {x3 : Int32} {x4 : Int32} {S : gS} {H : Heap} {locs : List Loc} {ls : Array Slot} {o : tR} (C : gC p s m args meth c cX11_chorus 6 RX11 ((some .int)) D (xtys cI cB cZ cQ) xord g Am) (O : tO l g cI cB cZ cQ Am aK aV) (Tb : ∀ x ∈ c.exceptionTable.toList, False) (K14 : ∀ (x1 : Int32) (x2 : Int32) (x3 : Int32) (x4 : Int32) (S : gS) (H : Heap) (locs : List Loc) (ls : Array Slot), gX D (xcell g cI cB cZ cQ) xord g S s H locs → lv_has ls 6 [(0, .ref (g 0)), (1, .int x1), (2, .int x2), (3, .int x3), (4, .int x4)] → r14 x1 x2 x3 x4 S = some o → W p l e (rmx 7 1) s m args below meth c H locs 1 6 (gEX below args s D (xtys cI cB cZ cQ) (xcell g cI cB cZ cQ) xord g 1 false o) (F0 m 14 ls [])) (X : gX D (xcell g cI cB cZ cQ) xord g S s H locs) (hl : lv_has ls 6 [(0, .ref (g 0)), (1, .int x1), (2, .int x2), (3, .int x3), (4, .int x4)]) (hF : fX11_chorus_b43 N r14 x1 x2 x3 x4 S = some o) : W p l e (rmx 7 1) s m args below meth c H locs 1 6 (gEX below args s D (xtys cI cB cZ cQ) (xcell g cI cB cZ cQ) xord g 1 false o) (F0 m 43 ls []) := by
  unfold fX11_chorus_b43 at hF
  refine lv_iinc (v := (x4 + 1 : Int32)) (lv' := [(4, .int ((x4 + 1 : Int32))), (0, .ref (g 0)), (1, .int x1), (2, .int x2), (3, .int x3)]) C.1.1 C.1.2.1 dX11_chorus_43 hl (k := 4) rfl rfl (by decide) rfl (fun ls hl => ?_)
  refine lv_goto (tgt := 14) C.1.1 C.1.2.1 dX11_chorus_46 (by decide) ?_
  exact K14 _ _ _ _ _ _ _ _ X (lv_sub hl [1, 2, 3, 4, 0] rfl) hF
noncomputable def fX11_chorus_b37 (N : Nat) (r14 : Int32 → Int32 → Int32 → Int32 → gS → Option (tR)) (x1 : Int32) (x4 : Int32) (x5 : Int32) (S : gS) : Option (tR) := fX11_chorus_b43 N r14 x1 x4 x5 x4 S
theorem bX11_chorus_37 {N : Nat} {r14 : Int32 → Int32 → Int32 → Int32 → gS → Option (tR)} {x1 : Int32} {x4 : Int32} {x5 : Int32} {S : gS} {H : Heap} {locs : List Loc} {ls : Array Slot} {o : tR} (C : gC p s m args meth c cX11_chorus 6 RX11 ((some .int)) D (xtys cI cB cZ cQ) xord g Am) (O : tO l g cI cB cZ cQ Am aK aV) (Tb : ∀ x ∈ c.exceptionTable.toList, False) (K14 : ∀ (x1 : Int32) (x2 : Int32) (x3 : Int32) (x4 : Int32) (S : gS) (H : Heap) (locs : List Loc) (ls : Array Slot), gX D (xcell g cI cB cZ cQ) xord g S s H locs → lv_has ls 6 [(0, .ref (g 0)), (1, .int x1), (2, .int x2), (3, .int x3), (4, .int x4)] → r14 x1 x2 x3 x4 S = some o → W p l e (rmx 7 1) s m args below meth c H locs 1 6 (gEX below args s D (xtys cI cB cZ cQ) (xcell g cI cB cZ cQ) xord g 1 false o) (F0 m 14 ls [])) (X : gX D (xcell g cI cB cZ cQ) xord g S s H locs) (hl : lv_has ls 6 [(0, .ref (g 0)), (1, .int x1), (4, .int x4), (5, .int x5)]) (hF : fX11_chorus_b37 N r14 x1 x4 x5 S = some o) : W p l e (rmx 7 1) s m args below meth c H locs 1 6 (gEX below args s D (xtys cI cB cZ cQ) (xcell g cI cB cZ cQ) xord g 1 false o) (F0 m 37 ls []) := by
  unfold fX11_chorus_b37 at hF
  refine lv_iload C.1.1 C.1.2.1 dX11_chorus_37 (lv_at hl 2 rfl) ?_
  refine lv_istore_n (lv' := [(2, .int x4), (0, .ref (g 0)), (1, .int x1), (4, .int x4), (5, .int x5)]) C.1.1 C.1.2.1 dX11_chorus_39 rfl hl (by decide) rfl (fun ls hl => ?_)
  refine lv_iload C.1.1 C.1.2.1 dX11_chorus_40 (lv_at hl 4 rfl) ?_
  refine lv_istore_n (lv' := [(3, .int x5), (2, .int x4), (0, .ref (g 0)), (1, .int x1), (4, .int x4), (5, .int x5)]) C.1.1 C.1.2.1 dX11_chorus_42 rfl hl (by decide) rfl (fun ls hl => ?_)
  exact bX11_chorus_43 C O Tb K14 X (lv_sub hl [2, 3, 1, 0, 4] rfl) hF
noncomputable def fX11_chorus_b20 (N : Nat) (r14 : Int32 → Int32 → Int32 → Int32 → gS → Option (tR)) (x1 : Int32) (x2 : Int32) (x3 : Int32) (x4 : Int32) (S : gS) : Option (tR) := bnd (fX11_dripBits N x4 S) fun q1 => (bnd (fJ6_bitCount_0f7a4 N q1.1 q1.2) fun q2 => (if q2.1 ≤ x3 then fX11_chorus_b43 N r14 x1 x2 x3 x4 q2.2 else fX11_chorus_b37 N r14 x1 x4 q2.1 q2.2))
theorem bX11_chorus_20 {N : Nat} {r14 : Int32 → Int32 → Int32 → Int32 → gS → Option (tR)} {x1 : Int32} {x2 : Int32} {x3 : Int32} {x4 : Int32} {S : gS} {H : Heap} {locs : List Loc} {ls : Array Slot} {o : tR} (C : gC p s m args meth c cX11_chorus 6 RX11 ((some .int)) D (xtys cI cB cZ cQ) xord g Am) (O : tO l g cI cB cZ cQ Am aK aV) (Tb : ∀ x ∈ c.exceptionTable.toList, False) (K14 : ∀ (x1 : Int32) (x2 : Int32) (x3 : Int32) (x4 : Int32) (S : gS) (H : Heap) (locs : List Loc) (ls : Array Slot), gX D (xcell g cI cB cZ cQ) xord g S s H locs → lv_has ls 6 [(0, .ref (g 0)), (1, .int x1), (2, .int x2), (3, .int x3), (4, .int x4)] → r14 x1 x2 x3 x4 S = some o → W p l e (rmx 7 1) s m args below meth c H locs 1 6 (gEX below args s D (xtys cI cB cZ cQ) (xcell g cI cB cZ cQ) xord g 1 false o) (F0 m 14 ls [])) (X : gX D (xcell g cI cB cZ cQ) xord g S s H locs) (hl : lv_has ls 6 [(0, .ref (g 0)), (1, .int x1), (2, .int x2), (3, .int x3), (4, .int x4)]) (hF : fX11_chorus_b20 N r14 x1 x2 x3 x4 S = some o) : W p l e (rmx 7 1) s m args below meth c H locs 1 6 (gEX below args s D (xtys cI cB cZ cQ) (xcell g cI cB cZ cQ) xord g 1 false o) (F0 m 20 ls []) := by
  unfold fX11_chorus_b20 at hF
  refine lv_aload_n C.1.1 C.1.2.1 dX11_chorus_20 rfl (lv_at hl 0 rfl) ?_
  refine lv_iload C.1.1 C.1.2.1 dX11_chorus_21 (lv_at hl 4 rfl) ?_
  obtain ⟨q1, hq1, hF⟩ := bnd_some hF
  refine x_callVi C X (k := 0) xv_X11_258 (rfl : xk 0 = 11) rfl rfl (by decide) (kX11_dripBits O.1.1 C.2.2.2.2.1 N x4 S q1 hq1) (Nat.le_of_ble_eq_true rfl) (Nat.le_of_ble_eq_true rfl) (Nat.le_of_ble_eq_true rfl) (Nat.le_of_ble_eq_true rfl) rfl hl.1 rfl (Nat.le_of_ble_eq_true rfl) dX11_chorus_23 (fun H locs X => ?_)
  obtain ⟨q2, hq2, hF⟩ := bnd_some hF
  refine g_callOi C X xv_X11_271 (kJ6_bitCount_0f7a4 (xs_sO O.1) C.2.2.2.2.1 N q1.1 q1.2 q2 hq2) (Nat.le_of_ble_eq_true rfl) (Nat.le_of_ble_eq_true rfl) (Nat.le_of_ble_eq_true rfl) (Nat.le_of_ble_eq_true rfl) rfl hl.1 rfl (Nat.le_of_ble_eq_true rfl) dX11_chorus_26 (fun H locs X => ?_)
  refine lv_istore (lv' := [(5, .int q2.1), (0, .ref (g 0)), (1, .int x1), (2, .int x2), (3, .int x3), (4, .int x4)]) C.1.1 C.1.2.1 dX11_chorus_29 hl (by decide) rfl (fun ls hl => ?_)
  refine lv_iload C.1.1 C.1.2.1 dX11_chorus_31 (lv_at hl 0 rfl) ?_
  refine lv_iload_n C.1.1 C.1.2.1 dX11_chorus_33 rfl (lv_at hl 4 rfl) ?_
  refine lv_icmp_le (tgt := 43) C.1.1 C.1.2.1 dX11_chorus_34 (by decide) (fun h_z => ?_) (fun h_z => ?_)
  · rw [if_pos h_z] at hF
    exact bX11_chorus_43 C O Tb K14 X (lv_sub hl [1, 2, 3, 4, 5] rfl) hF
  · rw [if_neg h_z] at hF
    exact bX11_chorus_37 C O Tb K14 X (lv_sub hl [1, 2, 5, 0] rfl) hF
noncomputable def fX11_chorus_b14 (N : Nat) (r14 : Int32 → Int32 → Int32 → Int32 → gS → Option (tR)) (x1 : Int32) (x2 : Int32) (x3 : Int32) (x4 : Int32) (S : gS) : Option (tR) := if x1 < x4 then fX11_chorus_b49 N x2 S else fX11_chorus_b20 N r14 x1 x2 x3 x4 S
theorem bX11_chorus_14 {N : Nat} {r14 : Int32 → Int32 → Int32 → Int32 → gS → Option (tR)} {x1 : Int32} {x2 : Int32} {x3 : Int32} {x4 : Int32} {S : gS} {H : Heap} {locs : List Loc} {ls : Array Slot} {o : tR} (C : gC p s m args meth c cX11_chorus 6 RX11 ((some .int)) D (xtys cI cB cZ cQ) xord g Am) (O : tO l g cI cB cZ cQ Am aK aV) (Tb : ∀ x ∈ c.exceptionTable.toList, False) (K14 : ∀ (x1 : Int32) (x2 : Int32) (x3 : Int32) (x4 : Int32) (S : gS) (H : Heap) (locs : List Loc) (ls : Array Slot), gX D (xcell g cI cB cZ cQ) xord g S s H locs → lv_has ls 6 [(0, .ref (g 0)), (1, .int x1), (2, .int x2), (3, .int x3), (4, .int x4)] → r14 x1 x2 x3 x4 S = some o → W p l e (rmx 7 1) s m args below meth c H locs 1 6 (gEX below args s D (xtys cI cB cZ cQ) (xcell g cI cB cZ cQ) xord g 1 false o) (F0 m 14 ls [])) (X : gX D (xcell g cI cB cZ cQ) xord g S s H locs) (hl : lv_has ls 6 [(0, .ref (g 0)), (1, .int x1), (2, .int x2), (3, .int x3), (4, .int x4)]) (hF : fX11_chorus_b14 N r14 x1 x2 x3 x4 S = some o) : W p l e (rmx 7 1) s m args below meth c H locs 1 6 (gEX below args s D (xtys cI cB cZ cQ) (xcell g cI cB cZ cQ) xord g 1 false o) (F0 m 14 ls []) := by
  unfold fX11_chorus_b14 at hF
  refine lv_iload C.1.1 C.1.2.1 dX11_chorus_14 (lv_at hl 4 rfl) ?_
  refine lv_iload_n C.1.1 C.1.2.1 dX11_chorus_16 rfl (lv_at hl 1 rfl) ?_
  refine lv_icmp_gt (tgt := 49) C.1.1 C.1.2.1 dX11_chorus_17 (by decide) (fun h_z => ?_) (fun h_z => ?_)
  · rw [if_pos h_z] at hF
    exact bX11_chorus_49 C O Tb X (lv_sub hl [2] rfl) hF
  · rw [if_neg h_z] at hF
    exact bX11_chorus_20 C O Tb K14 X (lv_sub hl [0, 1, 2, 3, 4] rfl) hF
noncomputable def fX11_chorus_h14 (N : Nat) : Nat → Int32 → Int32 → Int32 → Int32 → gS → Option (tR)
  | 0, _, _, _, _, _ => none
  | n + 1, x1, x2, x3, x4, S => fX11_chorus_b14 N (fX11_chorus_h14 N n) x1 x2 x3 x4 S
theorem hX11_chorus_14 {N : Nat} {o : tR} (C : gC p s m args meth c cX11_chorus 6 RX11 ((some .int)) D (xtys cI cB cZ cQ) xord g Am) (O : tO l g cI cB cZ cQ Am aK aV) (Tb : ∀ x ∈ c.exceptionTable.toList, False) : ∀ (n : Nat) (x1 : Int32) (x2 : Int32) (x3 : Int32) (x4 : Int32) (S : gS) (H : Heap) (locs : List Loc) (ls : Array Slot), gX D (xcell g cI cB cZ cQ) xord g S s H locs → lv_has ls 6 [(0, .ref (g 0)), (1, .int x1), (2, .int x2), (3, .int x3), (4, .int x4)] → fX11_chorus_h14 N n x1 x2 x3 x4 S = some o → W p l e (rmx 7 1) s m args below meth c H locs 1 6 (gEX below args s D (xtys cI cB cZ cQ) (xcell g cI cB cZ cQ) xord g 1 false o) (F0 m 14 ls []) := by
  intro n
  induction n with
  | zero =>
    intro x1 x2 x3 x4 S H locs ls X hl hF
    exact absurd (show (none : Option (tR)) = some o from hF) (by simp)
  | succ n ih =>
    intro x1 x2 x3 x4 S H locs ls X hl hF
    have hF : fX11_chorus_b14 N (fX11_chorus_h14 N n) x1 x2 x3 x4 S = some o := hF
    exact bX11_chorus_14 C O Tb ih X hl hF
noncomputable def fX11_chorus_b0 (N : Nat) (x1 : Int32) (S : gS) : Option (tR) := bnx (fX11_needWithin N x1 1 60 S) fun q1 => (fX11_chorus_h14 N N x1 ((-1)) ((-1)) 1 q1.2.2)
theorem bX11_chorus_0 {N : Nat} {x1 : Int32} {S : gS} {H : Heap} {locs : List Loc} {ls : Array Slot} {o : tR} (C : gC p s m args meth c cX11_chorus 6 RX11 ((some .int)) D (xtys cI cB cZ cQ) xord g Am) (O : tO l g cI cB cZ cQ Am aK aV) (Tb : ∀ x ∈ c.exceptionTable.toList, False) (X : gX D (xcell g cI cB cZ cQ) xord g S s H locs) (hl : lv_has ls 6 [(0, .ref (g 0)), (1, .int x1)]) (hF : fX11_chorus_b0 N x1 S = some o) : W p l e (rmx 7 1) s m args below meth c H locs 0 0 (gEX below args s D (xtys cI cB cZ cQ) (xcell g cI cB cZ cQ) xord g 1 false o) (F0 m 0 ls []) := by
  unfold fX11_chorus_b0 at hF
  refine lv_iload_n C.1.1 C.1.2.1 dX11_chorus_0 rfl (lv_at hl 1 rfl) ?_
  refine lv_iconst (v := 1) C.1.1 C.1.2.1 dX11_chorus_1 (by decide) ?_
  refine lv_bipush (v := 60) C.1.1 C.1.2.1 dX11_chorus_2 (by decide) ?_
  rcases (bnx_some hF).symm with ⟨q1, hq1, zq1, eo⟩ | ⟨q1, hq1, zq1, hF⟩
  · subst eo
    exact t_thr (t_preS C X xv_X11_239 (kX11_needWithin O C.2.2.2.2.1 N x1 1 60 S q1 hq1) (Nat.le_of_ble_eq_true rfl) (Nat.le_of_ble_eq_true rfl) (Nat.le_of_ble_eq_true rfl) (Nat.le_of_ble_eq_true rfl) rfl hl.1 rfl (Nat.le_of_ble_eq_true rfl) dX11_chorus_4) zq1 C Tb X (by decide) (by decide)
  refine t_okv (t_preS C X xv_X11_239 (kX11_needWithin O C.2.2.2.2.1 N x1 1 60 S q1 hq1) (Nat.le_of_ble_eq_true rfl) (Nat.le_of_ble_eq_true rfl) (Nat.le_of_ble_eq_true rfl) (Nat.le_of_ble_eq_true rfl) rfl hl.1 rfl (Nat.le_of_ble_eq_true rfl) dX11_chorus_4) zq1 X (fun H locs X => ?_)
  refine W.widen (k := 1) (n := 6) (by decide) (by decide) ?_
  refine lv_iconst (v := (-1)) C.1.1 C.1.2.1 dX11_chorus_7 (by decide) ?_
  refine lv_istore_n (lv' := [(2, .int ((-1))), (0, .ref (g 0)), (1, .int x1)]) C.1.1 C.1.2.1 dX11_chorus_8 rfl hl (by decide) rfl (fun ls hl => ?_)
  refine lv_iconst (v := (-1)) C.1.1 C.1.2.1 dX11_chorus_9 (by decide) ?_
  refine lv_istore_n (lv' := [(3, .int ((-1))), (2, .int ((-1))), (0, .ref (g 0)), (1, .int x1)]) C.1.1 C.1.2.1 dX11_chorus_10 rfl hl (by decide) rfl (fun ls hl => ?_)
  refine lv_iconst (v := 1) C.1.1 C.1.2.1 dX11_chorus_11 (by decide) ?_
  refine lv_istore (lv' := [(4, .int 1), (3, .int ((-1))), (2, .int ((-1))), (0, .ref (g 0)), (1, .int x1)]) C.1.1 C.1.2.1 dX11_chorus_12 hl (by decide) rfl (fun ls hl => ?_)
  exact hX11_chorus_14 C O Tb N _ _ _ _ _ _ _ _ X (lv_sub hl [3, 4, 2, 1, 0] rfl) hF
noncomputable def fX11_chorus (N : Nat) (x1 : Int32) (S : gS) : Option (tR) := fX11_chorus_b0 N x1 S
theorem kX11_chorus {l : Launch} {D : va_G} {g : Nat → Nat} {cI cB cZ cQ : ClassId} {Am : (Nat → Prop) → State → Heap → Prop} {aK aV : Nat → Nat} (O : tO l g cI cB cZ cQ Am aK aV) (P : gAm Am) (N : Nat) (x1 : Int32) (S : gS) (o : tR) (hF : fX11_chorus N x1 S = some o) : gN l yX11_chorus cX11_chorus 6 ((some .int)) 7 1 D (xtys cI cB cZ cQ) (xcell g cI cB cZ cQ) xord g Am [.ref (g 0), .int x1] S false o :=
  gN_of P (by decide) (Nat.le_of_ble_eq_true rfl) (fun p e s m args below meth c ls C Tb X hl => bX11_chorus_0 C O Tb X (lv_sub hl [0, 1] rfl) hF)
-- X11.together
noncomputable def fX11_together_b70 (N : Nat) (x2 : Int32) (S : gS) : Option (tR) := some (0, x2, S)
theorem bX11_together_70 {N : Nat} {x2 : Int32} {S : gS} {H : Heap} {locs : List Loc} {ls : Array Slot} {o : tR} (C : gC p s m args meth c cX11_together 5 RX11 ((some .int)) D (xtys cI cB cZ cQ) xord g Am) (O : tO l g cI cB cZ cQ Am aK aV) (Tb : ∀ x ∈ c.exceptionTable.toList, False) (X : gX D (xcell g cI cB cZ cQ) xord g S s H locs) (hl : lv_has ls 5 [(2, .int x2)]) (hF : fX11_together_b70 N x2 S = some o) : W p l e (rmx 7 1) s m args below meth c H locs 1 6 (gEX below args s D (xtys cI cB cZ cQ) (xcell g cI cB cZ cQ) xord g 1 false o) (F0 m 70 ls []) := by
  unfold fX11_together_b70 at hF
  refine lv_iload_n C.1.1 C.1.2.1 dX11_together_70 rfl (lv_at hl 0 rfl) ?_
  cases hF
  exact t_iret C X (by decide) (by decide) dX11_together_71
noncomputable def fX11_together_b64 (N : Nat) (r12 : Int32 → Int32 → Int32 → Int32 → gS → Option (tR)) (x1 : Int32) (x2 : Int32) (x3 : Int32) (x4 : Int32) (S : gS) : Option (tR) := r12 x1 x2 x3 ((x4 + 1 : Int32)) S
theorem bX11_together_64 {N : Nat} {r12 : Int32 → Int32 → Int32 → Int32 → gS → Option (tR)} {x1 : Int32} {x2 : Int32} {x3 : Int32} {x4 : Int32} {S : gS} {H : Heap} {locs : List Loc} {ls : Array Slot} {o : tR} (C : gC p s m args meth c cX11_together 5 RX11 ((some .int)) D (xtys cI cB cZ cQ) xord g Am) (O : tO l g cI cB cZ cQ Am aK aV) (Tb : ∀ x ∈ c.exceptionTable.toList, False) (K12 : ∀ (x1 : Int32) (x2 : Int32) (x3 : Int32) (x4 : Int32) (S : gS) (H : Heap) (locs : List Loc) (ls : Array Slot), gX D (xcell g cI cB cZ cQ) xord g S s H locs → lv_has ls 5 [(0, .ref (g 0)), (1, .int x1), (2, .int x2), (3, .int x3), (4, .int x4)] → r12 x1 x2 x3 x4 S = some o → W p l e (rmx 7 1) s m args below meth c H locs 1 6 (gEX below args s D (xtys cI cB cZ cQ) (xcell g cI cB cZ cQ) xord g 1 false o) (F0 m 12 ls [])) (X : gX D (xcell g cI cB cZ cQ) xord g S s H locs) (hl : lv_has ls 5 [(0, .ref (g 0)), (1, .int x1), (2, .int x2), (3, .int x3), (4, .int x4)]) (hF : fX11_together_b64 N r12 x1 x2 x3 x4 S = some o) : W p l e (rmx 7 1) s m args below meth c H locs 1 6 (gEX below args s D (xtys cI cB cZ cQ) (xcell g cI cB cZ cQ) xord g 1 false o) (F0 m 64 ls []) := by
  unfold fX11_together_b64 at hF
  refine lv_iinc (v := (x4 + 1 : Int32)) (lv' := [(4, .int ((x4 + 1 : Int32))), (0, .ref (g 0)), (1, .int x1), (2, .int x2), (3, .int x3)]) C.1.1 C.1.2.1 dX11_together_64 hl (k := 4) rfl rfl (by decide) rfl (fun ls hl => ?_)
  refine lv_goto (tgt := 12) C.1.1 C.1.2.1 dX11_together_67 (by decide) ?_
  exact K12 _ _ _ _ _ _ _ _ X (lv_sub hl [1, 2, 3, 4, 0] rfl) hF
noncomputable def fX11_together_b49 (N : Nat) (r12 : Int32 → Int32 → Int32 → Int32 → gS → Option (tR)) (x1 : Int32) (x2 : Int32) (x3 : Int32) (x4 : Int32) (S : gS) : Option (tR) := lt (xtw S) fun T1 => (chk (inb x4 8) (bnd (fX11_leastCommon N x3 (S (T1 + 1) (Int32.toNatClampNeg x4)) S) fun q1 => (fX11_together_b64 N r12 x1 x2 q1.1 x4 q1.2)))
theorem bX11_together_49 {N : Nat} {r12 : Int32 → Int32 → Int32 → Int32 → gS → Option (tR)} {x1 : Int32} {x2 : Int32} {x3 : Int32} {x4 : Int32} {S : gS} {H : Heap} {locs : List Loc} {ls : Array Slot} {o : tR} (C : gC p s m args meth c cX11_together 5 RX11 ((some .int)) D (xtys cI cB cZ cQ) xord g Am) (O : tO l g cI cB cZ cQ Am aK aV) (Tb : ∀ x ∈ c.exceptionTable.toList, False) (K12 : ∀ (x1 : Int32) (x2 : Int32) (x3 : Int32) (x4 : Int32) (S : gS) (H : Heap) (locs : List Loc) (ls : Array Slot), gX D (xcell g cI cB cZ cQ) xord g S s H locs → lv_has ls 5 [(0, .ref (g 0)), (1, .int x1), (2, .int x2), (3, .int x3), (4, .int x4)] → r12 x1 x2 x3 x4 S = some o → W p l e (rmx 7 1) s m args below meth c H locs 1 6 (gEX below args s D (xtys cI cB cZ cQ) (xcell g cI cB cZ cQ) xord g 1 false o) (F0 m 12 ls [])) (X : gX D (xcell g cI cB cZ cQ) xord g S s H locs) (hl : lv_has ls 5 [(0, .ref (g 0)), (1, .int x1), (2, .int x2), (3, .int x3), (4, .int x4)]) (hF : fX11_together_b49 N r12 x1 x2 x3 x4 S = some o) : W p l e (rmx 7 1) s m args below meth c H locs 1 6 (gEX below args s D (xtys cI cB cZ cQ) (xcell g cI cB cZ cQ) xord g 1 false o) (F0 m 49 ls []) := by
  unfold fX11_together_b49 at hF
  refine lv_iload_n C.1.1 C.1.2.1 dX11_together_49 rfl (lv_at hl 3 rfl) ?_
  refine lv_aload_n C.1.1 C.1.2.1 dX11_together_50 rfl (lv_at hl 0 rfl) ?_
  obtain ⟨T1, eT1, hF⟩ := lt_some hF
  have hk_T1 := xtw_k eT1
  refine xg_X11_57 C O.1.1 X (T := T1) eT1 (k := 0) rfl dX11_together_51 ?_
  refine xg_X11_165 C O.1.1 X (k := T1) hk_T1 (j := T1 + 1) rfl dX11_together_54 ?_
  refine lv_iload C.1.1 C.1.2.1 dX11_together_57 (lv_at hl 4 rfl) ?_
  obtain ⟨h_1, hF⟩ := chk_some hF
  refine x_rI C X (k := T1 + 1) (xs_9_1 hk_T1).1 (n := 8) (xs_9_1 hk_T1).2  (inb_vp h_1) rfl dX11_together_59 ?_
  obtain ⟨q1, hq1, hF⟩ := bnd_some hF
  refine g_callSi C X xv_X11_287 (kX11_leastCommon O.1.1 C.2.2.2.2.1 N x3 (S (T1 + 1) (Int32.toNatClampNeg x4)) S q1 hq1) (Nat.le_of_ble_eq_true rfl) (Nat.le_of_ble_eq_true rfl) (Nat.le_of_ble_eq_true rfl) (Nat.le_of_ble_eq_true rfl) rfl hl.1 rfl (Nat.le_of_ble_eq_true rfl) dX11_together_60 (fun H locs X => ?_)
  refine lv_istore_n (lv' := [(3, .int q1.1), (0, .ref (g 0)), (1, .int x1), (2, .int x2), (4, .int x4)]) C.1.1 C.1.2.1 dX11_together_63 rfl hl (by decide) rfl (fun ls hl => ?_)
  exact bX11_together_64 C O Tb K12 X (lv_sub hl [1, 2, 3, 0, 4] rfl) hF
noncomputable def fX11_together_b47 (N : Nat) (S : gS) : Option (tR) := some (0, (-1), S)
theorem bX11_together_47 {N : Nat} {S : gS} {H : Heap} {locs : List Loc} {ls : Array Slot} {o : tR} (C : gC p s m args meth c cX11_together 5 RX11 ((some .int)) D (xtys cI cB cZ cQ) xord g Am) (O : tO l g cI cB cZ cQ Am aK aV) (Tb : ∀ x ∈ c.exceptionTable.toList, False) (X : gX D (xcell g cI cB cZ cQ) xord g S s H locs) (hl : lv_has ls 5 []) (hF : fX11_together_b47 N S = some o) : W p l e (rmx 7 1) s m args below meth c H locs 1 6 (gEX below args s D (xtys cI cB cZ cQ) (xcell g cI cB cZ cQ) xord g 1 false o) (F0 m 47 ls []) := by
  unfold fX11_together_b47 at hF
  refine lv_iconst (v := (-1)) C.1.1 C.1.2.1 dX11_together_47 (by decide) ?_
  cases hF
  exact t_iret (x := (-1)) C X (by decide) (by decide) dX11_together_48
noncomputable def fX11_together_b33 (N : Nat) (r12 : Int32 → Int32 → Int32 → Int32 → gS → Option (tR)) (x1 : Int32) (x2 : Int32) (x3 : Int32) (x4 : Int32) (S : gS) : Option (tR) := bnd (fX11_nextOf N x4 x2 x3 S) fun q1 => (if q1.1 = ((-1)) then fX11_together_b47 N q1.2 else fX11_together_b49 N r12 x1 q1.1 x3 x4 q1.2)
theorem bX11_together_33 {N : Nat} {r12 : Int32 → Int32 → Int32 → Int32 → gS → Option (tR)} {x1 : Int32} {x2 : Int32} {x3 : Int32} {x4 : Int32} {S : gS} {H : Heap} {locs : List Loc} {ls : Array Slot} {o : tR} (C : gC p s m args meth c cX11_together 5 RX11 ((some .int)) D (xtys cI cB cZ cQ) xord g Am) (O : tO l g cI cB cZ cQ Am aK aV) (Tb : ∀ x ∈ c.exceptionTable.toList, False) (K12 : ∀ (x1 : Int32) (x2 : Int32) (x3 : Int32) (x4 : Int32) (S : gS) (H : Heap) (locs : List Loc) (ls : Array Slot), gX D (xcell g cI cB cZ cQ) xord g S s H locs → lv_has ls 5 [(0, .ref (g 0)), (1, .int x1), (2, .int x2), (3, .int x3), (4, .int x4)] → r12 x1 x2 x3 x4 S = some o → W p l e (rmx 7 1) s m args below meth c H locs 1 6 (gEX below args s D (xtys cI cB cZ cQ) (xcell g cI cB cZ cQ) xord g 1 false o) (F0 m 12 ls [])) (X : gX D (xcell g cI cB cZ cQ) xord g S s H locs) (hl : lv_has ls 5 [(0, .ref (g 0)), (1, .int x1), (2, .int x2), (3, .int x3), (4, .int x4)]) (hF : fX11_together_b33 N r12 x1 x2 x3 x4 S = some o) : W p l e (rmx 7 1) s m args below meth c H locs 1 6 (gEX below args s D (xtys cI cB cZ cQ) (xcell g cI cB cZ cQ) xord g 1 false o) (F0 m 33 ls []) := by
  unfold fX11_together_b33 at hF
  refine lv_aload_n C.1.1 C.1.2.1 dX11_together_33 rfl (lv_at hl 0 rfl) ?_
  refine lv_iload C.1.1 C.1.2.1 dX11_together_34 (lv_at hl 4 rfl) ?_
  refine lv_iload_n C.1.1 C.1.2.1 dX11_together_36 rfl (lv_at hl 2 rfl) ?_
  refine lv_iload_n C.1.1 C.1.2.1 dX11_together_37 rfl (lv_at hl 3 rfl) ?_
  obtain ⟨q1, hq1, hF⟩ := bnd_some hF
  refine x_callVi C X (k := 0) xv_X11_283 (rfl : xk 0 = 11) rfl rfl (by decide) (kX11_nextOf O.1.1 C.2.2.2.2.1 N x4 x2 x3 S q1 hq1) (Nat.le_of_ble_eq_true rfl) (Nat.le_of_ble_eq_true rfl) (Nat.le_of_ble_eq_true rfl) (Nat.le_of_ble_eq_true rfl) rfl hl.1 rfl (Nat.le_of_ble_eq_true rfl) dX11_together_38 (fun H locs X => ?_)
  refine lv_istore_n (lv' := [(2, .int q1.1), (0, .ref (g 0)), (1, .int x1), (3, .int x3), (4, .int x4)]) C.1.1 C.1.2.1 dX11_together_41 rfl hl (by decide) rfl (fun ls hl => ?_)
  refine lv_iload_n C.1.1 C.1.2.1 dX11_together_42 rfl (lv_at hl 0 rfl) ?_
  refine lv_iconst (v := (-1)) C.1.1 C.1.2.1 dX11_together_43 (by decide) ?_
  refine lv_icmp_ne (tgt := 49) C.1.1 C.1.2.1 dX11_together_44 (by decide) (fun h_z => ?_) (fun h_z => ?_)
  · rw [if_neg h_z] at hF
    exact bX11_together_49 C O Tb K12 X (lv_sub hl [1, 2, 0, 3, 4] rfl) hF
  · rw [if_pos h_z] at hF
    exact bX11_together_47 C O Tb X (lv_sub hl [] rfl) hF
noncomputable def fX11_together_b24 (N : Nat) (r12 : Int32 → Int32 → Int32 → Int32 → gS → Option (tR)) (x1 : Int32) (x2 : Int32) (x3 : Int32) (x4 : Int32) (S : gS) : Option (tR) := bnd (fX11_isOneOf N x1 x4 S) fun q1 => (if q1.1 = 0 then fX11_together_b64 N r12 x1 x2 x3 x4 q1.2 else fX11_together_b33 N r12 x1 x2 x3 x4 q1.2)
theorem bX11_together_24 {N : Nat} {r12 : Int32 → Int32 → Int32 → Int32 → gS → Option (tR)} {x1 : Int32} {x2 : Int32} {x3 : Int32} {x4 : Int32} {S : gS} {H : Heap} {locs : List Loc} {ls : Array Slot} {o : tR} (C : gC p s m args meth c cX11_together 5 RX11 ((some .int)) D (xtys cI cB cZ cQ) xord g Am) (O : tO l g cI cB cZ cQ Am aK aV) (Tb : ∀ x ∈ c.exceptionTable.toList, False) (K12 : ∀ (x1 : Int32) (x2 : Int32) (x3 : Int32) (x4 : Int32) (S : gS) (H : Heap) (locs : List Loc) (ls : Array Slot), gX D (xcell g cI cB cZ cQ) xord g S s H locs → lv_has ls 5 [(0, .ref (g 0)), (1, .int x1), (2, .int x2), (3, .int x3), (4, .int x4)] → r12 x1 x2 x3 x4 S = some o → W p l e (rmx 7 1) s m args below meth c H locs 1 6 (gEX below args s D (xtys cI cB cZ cQ) (xcell g cI cB cZ cQ) xord g 1 false o) (F0 m 12 ls [])) (X : gX D (xcell g cI cB cZ cQ) xord g S s H locs) (hl : lv_has ls 5 [(0, .ref (g 0)), (1, .int x1), (2, .int x2), (3, .int x3), (4, .int x4)]) (hF : fX11_together_b24 N r12 x1 x2 x3 x4 S = some o) : W p l e (rmx 7 1) s m args below meth c H locs 1 6 (gEX below args s D (xtys cI cB cZ cQ) (xcell g cI cB cZ cQ) xord g 1 false o) (F0 m 24 ls []) := by
  unfold fX11_together_b24 at hF
  refine lv_iload_n C.1.1 C.1.2.1 dX11_together_24 rfl (lv_at hl 1 rfl) ?_
  refine lv_iload C.1.1 C.1.2.1 dX11_together_25 (lv_at hl 4 rfl) ?_
  obtain ⟨q1, hq1, hF⟩ := bnd_some hF
  refine g_callSi C X xv_X11_279 (kX11_isOneOf O.1.1 C.2.2.2.2.1 N x1 x4 S q1 hq1) (Nat.le_of_ble_eq_true rfl) (Nat.le_of_ble_eq_true rfl) (Nat.le_of_ble_eq_true rfl) (Nat.le_of_ble_eq_true rfl) rfl hl.1 rfl (Nat.le_of_ble_eq_true rfl) dX11_together_27 (fun H locs X => ?_)
  refine lv_if_eq (tgt := 64) C.1.1 C.1.2.1 dX11_together_30 (by decide) (fun h_z => ?_) (fun h_z => ?_)
  · rw [if_pos h_z] at hF
    exact bX11_together_64 C O Tb K12 X (lv_sub hl [0, 1, 2, 3, 4] rfl) hF
  · rw [if_neg h_z] at hF
    exact bX11_together_33 C O Tb K12 X (lv_sub hl [0, 1, 2, 3, 4] rfl) hF
noncomputable def fX11_together_b12 (N : Nat) (r12 : Int32 → Int32 → Int32 → Int32 → gS → Option (tR)) (x1 : Int32) (x2 : Int32) (x3 : Int32) (x4 : Int32) (S : gS) : Option (tR) := lt (xtw S) fun T1 => (if (S T1 0) ≤ x4 then fX11_together_b70 N x2 S else fX11_together_b24 N r12 x1 x2 x3 x4 S)
theorem bX11_together_12 {N : Nat} {r12 : Int32 → Int32 → Int32 → Int32 → gS → Option (tR)} {x1 : Int32} {x2 : Int32} {x3 : Int32} {x4 : Int32} {S : gS} {H : Heap} {locs : List Loc} {ls : Array Slot} {o : tR} (C : gC p s m args meth c cX11_together 5 RX11 ((some .int)) D (xtys cI cB cZ cQ) xord g Am) (O : tO l g cI cB cZ cQ Am aK aV) (Tb : ∀ x ∈ c.exceptionTable.toList, False) (K12 : ∀ (x1 : Int32) (x2 : Int32) (x3 : Int32) (x4 : Int32) (S : gS) (H : Heap) (locs : List Loc) (ls : Array Slot), gX D (xcell g cI cB cZ cQ) xord g S s H locs → lv_has ls 5 [(0, .ref (g 0)), (1, .int x1), (2, .int x2), (3, .int x3), (4, .int x4)] → r12 x1 x2 x3 x4 S = some o → W p l e (rmx 7 1) s m args below meth c H locs 1 6 (gEX below args s D (xtys cI cB cZ cQ) (xcell g cI cB cZ cQ) xord g 1 false o) (F0 m 12 ls [])) (X : gX D (xcell g cI cB cZ cQ) xord g S s H locs) (hl : lv_has ls 5 [(0, .ref (g 0)), (1, .int x1), (2, .int x2), (3, .int x3), (4, .int x4)]) (hF : fX11_together_b12 N r12 x1 x2 x3 x4 S = some o) : W p l e (rmx 7 1) s m args below meth c H locs 1 6 (gEX below args s D (xtys cI cB cZ cQ) (xcell g cI cB cZ cQ) xord g 1 false o) (F0 m 12 ls []) := by
  unfold fX11_together_b12 at hF
  refine lv_iload C.1.1 C.1.2.1 dX11_together_12 (lv_at hl 4 rfl) ?_
  refine lv_aload_n C.1.1 C.1.2.1 dX11_together_14 rfl (lv_at hl 0 rfl) ?_
  obtain ⟨T1, eT1, hF⟩ := lt_some hF
  have hk_T1 := xtw_k eT1
  refine xg_X11_57 C O.1.1 X (T := T1) eT1 (k := 0) rfl dX11_together_15 ?_
  refine xg_X11_108 C O.1.1 X (k := T1) hk_T1 dX11_together_18 ?_
  refine lv_icmp_ge (tgt := 70) C.1.1 C.1.2.1 dX11_together_21 (by decide) (fun h_z => ?_) (fun h_z => ?_)
  · rw [if_pos h_z] at hF
    exact bX11_together_70 C O Tb X (lv_sub hl [2] rfl) hF
  · rw [if_neg h_z] at hF
    exact bX11_together_24 C O Tb K12 X (lv_sub hl [0, 1, 2, 3, 4] rfl) hF
noncomputable def fX11_together_h12 (N : Nat) : Nat → Int32 → Int32 → Int32 → Int32 → gS → Option (tR)
  | 0, _, _, _, _, _ => none
  | n + 1, x1, x2, x3, x4, S => fX11_together_b12 N (fX11_together_h12 N n) x1 x2 x3 x4 S
theorem hX11_together_12 {N : Nat} {o : tR} (C : gC p s m args meth c cX11_together 5 RX11 ((some .int)) D (xtys cI cB cZ cQ) xord g Am) (O : tO l g cI cB cZ cQ Am aK aV) (Tb : ∀ x ∈ c.exceptionTable.toList, False) : ∀ (n : Nat) (x1 : Int32) (x2 : Int32) (x3 : Int32) (x4 : Int32) (S : gS) (H : Heap) (locs : List Loc) (ls : Array Slot), gX D (xcell g cI cB cZ cQ) xord g S s H locs → lv_has ls 5 [(0, .ref (g 0)), (1, .int x1), (2, .int x2), (3, .int x3), (4, .int x4)] → fX11_together_h12 N n x1 x2 x3 x4 S = some o → W p l e (rmx 7 1) s m args below meth c H locs 1 6 (gEX below args s D (xtys cI cB cZ cQ) (xcell g cI cB cZ cQ) xord g 1 false o) (F0 m 12 ls []) := by
  intro n
  induction n with
  | zero =>
    intro x1 x2 x3 x4 S H locs ls X hl hF
    exact absurd (show (none : Option (tR)) = some o from hF) (by simp)
  | succ n ih =>
    intro x1 x2 x3 x4 S H locs ls X hl hF
    have hF : fX11_together_b12 N (fX11_together_h12 N n) x1 x2 x3 x4 S = some o := hF
    exact bX11_together_12 C O Tb ih X hl hF
noncomputable def fX11_together_b0 (N : Nat) (x1 : Int32) (S : gS) : Option (tR) := bnx (fX11_needGrottoes N x1 S) fun q1 => (fX11_together_h12 N N x1 1 1 0 q1.2.2)
theorem bX11_together_0 {N : Nat} {x1 : Int32} {S : gS} {H : Heap} {locs : List Loc} {ls : Array Slot} {o : tR} (C : gC p s m args meth c cX11_together 5 RX11 ((some .int)) D (xtys cI cB cZ cQ) xord g Am) (O : tO l g cI cB cZ cQ Am aK aV) (Tb : ∀ x ∈ c.exceptionTable.toList, False) (X : gX D (xcell g cI cB cZ cQ) xord g S s H locs) (hl : lv_has ls 5 [(0, .ref (g 0)), (1, .int x1)]) (hF : fX11_together_b0 N x1 S = some o) : W p l e (rmx 7 1) s m args below meth c H locs 0 0 (gEX below args s D (xtys cI cB cZ cQ) (xcell g cI cB cZ cQ) xord g 1 false o) (F0 m 0 ls []) := by
  unfold fX11_together_b0 at hF
  refine lv_aload_n C.1.1 C.1.2.1 dX11_together_0 rfl (lv_at hl 0 rfl) ?_
  refine lv_iload_n C.1.1 C.1.2.1 dX11_together_1 rfl (lv_at hl 1 rfl) ?_
  rcases (bnx_some hF).symm with ⟨q1, hq1, zq1, eo⟩ | ⟨q1, hq1, zq1, hF⟩
  · subst eo
    exact t_thr (x_preT C X xv_X11_276 rfl (kX11_needGrottoes O C.2.2.2.2.1 N x1 S q1 hq1) (Nat.le_of_ble_eq_true rfl) (Nat.le_of_ble_eq_true rfl) (Nat.le_of_ble_eq_true rfl) (Nat.le_of_ble_eq_true rfl) rfl hl.1 rfl (Nat.le_of_ble_eq_true rfl) dX11_together_2) zq1 C Tb X (by decide) (by decide)
  refine t_okv (x_preT C X xv_X11_276 rfl (kX11_needGrottoes O C.2.2.2.2.1 N x1 S q1 hq1) (Nat.le_of_ble_eq_true rfl) (Nat.le_of_ble_eq_true rfl) (Nat.le_of_ble_eq_true rfl) (Nat.le_of_ble_eq_true rfl) rfl hl.1 rfl (Nat.le_of_ble_eq_true rfl) dX11_together_2) zq1 X (fun H locs X => ?_)
  refine W.widen (k := 1) (n := 6) (by decide) (by decide) ?_
  refine lv_iconst (v := 1) C.1.1 C.1.2.1 dX11_together_5 (by decide) ?_
  refine lv_istore_n (lv' := [(2, .int 1), (0, .ref (g 0)), (1, .int x1)]) C.1.1 C.1.2.1 dX11_together_6 rfl hl (by decide) rfl (fun ls hl => ?_)
  refine lv_iconst (v := 1) C.1.1 C.1.2.1 dX11_together_7 (by decide) ?_
  refine lv_istore_n (lv' := [(3, .int 1), (2, .int 1), (0, .ref (g 0)), (1, .int x1)]) C.1.1 C.1.2.1 dX11_together_8 rfl hl (by decide) rfl (fun ls hl => ?_)
  refine lv_iconst (v := 0) C.1.1 C.1.2.1 dX11_together_9 (by decide) ?_
  refine lv_istore (lv' := [(4, .int 0), (3, .int 1), (2, .int 1), (0, .ref (g 0)), (1, .int x1)]) C.1.1 C.1.2.1 dX11_together_10 hl (by decide) rfl (fun ls hl => ?_)
  exact hX11_together_12 C O Tb N _ _ _ _ _ _ _ _ X (lv_sub hl [3, 4, 2, 1, 0] rfl) hF
noncomputable def fX11_together (N : Nat) (x1 : Int32) (S : gS) : Option (tR) := fX11_together_b0 N x1 S
theorem kX11_together {l : Launch} {D : va_G} {g : Nat → Nat} {cI cB cZ cQ : ClassId} {Am : (Nat → Prop) → State → Heap → Prop} {aK aV : Nat → Nat} (O : tO l g cI cB cZ cQ Am aK aV) (P : gAm Am) (N : Nat) (x1 : Int32) (S : gS) (o : tR) (hF : fX11_together N x1 S = some o) : gN l yX11_together cX11_together 5 ((some .int)) 7 1 D (xtys cI cB cZ cQ) (xcell g cI cB cZ cQ) xord g Am [.ref (g 0), .int x1] S false o :=
  gN_of P (by decide) (Nat.le_of_ble_eq_true rfl) (fun p e s m args below meth c ls C Tb X hl => bX11_together_0 C O Tb X (lv_sub hl [0, 1] rfl) hF)
-- X11.rhythm
noncomputable def fX11_rhythm_b48 (N : Nat) (x2 : Int32) (S : gS) : Option (tR) := some (0, x2, S)
theorem bX11_rhythm_48 {N : Nat} {x2 : Int32} {S : gS} {H : Heap} {locs : List Loc} {ls : Array Slot} {o : tR} (C : gC p s m args meth c cX11_rhythm 4 RX11 ((some .int)) D (xtys cI cB cZ cQ) xord g Am) (O : tO l g cI cB cZ cQ Am aK aV) (Tb : ∀ x ∈ c.exceptionTable.toList, False) (X : gX D (xcell g cI cB cZ cQ) xord g S s H locs) (hl : lv_has ls 4 [(2, .int x2)]) (hF : fX11_rhythm_b48 N x2 S = some o) : W p l e (rmx 7 1) s m args below meth c H locs 1 6 (gEX below args s D (xtys cI cB cZ cQ) (xcell g cI cB cZ cQ) xord g 1 false o) (F0 m 48 ls []) := by
  unfold fX11_rhythm_b48 at hF
  refine lv_iload_n C.1.1 C.1.2.1 dX11_rhythm_48 rfl (lv_at hl 0 rfl) ?_
  cases hF
  exact t_iret C X (by decide) (by decide) dX11_rhythm_49
noncomputable def fX11_rhythm_b42 (N : Nat) (r9 : Int32 → Int32 → Int32 → gS → Option (tR)) (x1 : Int32) (x2 : Int32) (x3 : Int32) (S : gS) : Option (tR) := r9 x1 x2 ((x3 + 1 : Int32)) S
theorem bX11_rhythm_42 {N : Nat} {r9 : Int32 → Int32 → Int32 → gS → Option (tR)} {x1 : Int32} {x2 : Int32} {x3 : Int32} {S : gS} {H : Heap} {locs : List Loc} {ls : Array Slot} {o : tR} (C : gC p s m args meth c cX11_rhythm 4 RX11 ((some .int)) D (xtys cI cB cZ cQ) xord g Am) (O : tO l g cI cB cZ cQ Am aK aV) (Tb : ∀ x ∈ c.exceptionTable.toList, False) (K9 : ∀ (x1 : Int32) (x2 : Int32) (x3 : Int32) (S : gS) (H : Heap) (locs : List Loc) (ls : Array Slot), gX D (xcell g cI cB cZ cQ) xord g S s H locs → lv_has ls 4 [(0, .ref (g 0)), (1, .int x1), (2, .int x2), (3, .int x3)] → r9 x1 x2 x3 S = some o → W p l e (rmx 7 1) s m args below meth c H locs 1 6 (gEX below args s D (xtys cI cB cZ cQ) (xcell g cI cB cZ cQ) xord g 1 false o) (F0 m 9 ls [])) (X : gX D (xcell g cI cB cZ cQ) xord g S s H locs) (hl : lv_has ls 4 [(0, .ref (g 0)), (1, .int x1), (2, .int x2), (3, .int x3)]) (hF : fX11_rhythm_b42 N r9 x1 x2 x3 S = some o) : W p l e (rmx 7 1) s m args below meth c H locs 1 6 (gEX below args s D (xtys cI cB cZ cQ) (xcell g cI cB cZ cQ) xord g 1 false o) (F0 m 42 ls []) := by
  unfold fX11_rhythm_b42 at hF
  refine lv_iinc (v := (x3 + 1 : Int32)) (lv' := [(3, .int ((x3 + 1 : Int32))), (0, .ref (g 0)), (1, .int x1), (2, .int x2)]) C.1.1 C.1.2.1 dX11_rhythm_42 hl (k := 3) rfl rfl (by decide) rfl (fun ls hl => ?_)
  refine lv_goto (tgt := 9) C.1.1 C.1.2.1 dX11_rhythm_45 (by decide) ?_
  exact K9 _ _ _ _ _ _ _ X (lv_sub hl [1, 2, 3, 0] rfl) hF
noncomputable def fX11_rhythm_b28 (N : Nat) (r9 : Int32 → Int32 → Int32 → gS → Option (tR)) (x1 : Int32) (x2 : Int32) (x3 : Int32) (S : gS) : Option (tR) := lt (xtw S) fun T1 => (chk (inb x3 8) (bnd (fX11_leastCommon N x2 (S (T1 + 1) (Int32.toNatClampNeg x3)) S) fun q1 => (fX11_rhythm_b42 N r9 x1 q1.1 x3 q1.2)))
theorem bX11_rhythm_28 {N : Nat} {r9 : Int32 → Int32 → Int32 → gS → Option (tR)} {x1 : Int32} {x2 : Int32} {x3 : Int32} {S : gS} {H : Heap} {locs : List Loc} {ls : Array Slot} {o : tR} (C : gC p s m args meth c cX11_rhythm 4 RX11 ((some .int)) D (xtys cI cB cZ cQ) xord g Am) (O : tO l g cI cB cZ cQ Am aK aV) (Tb : ∀ x ∈ c.exceptionTable.toList, False) (K9 : ∀ (x1 : Int32) (x2 : Int32) (x3 : Int32) (S : gS) (H : Heap) (locs : List Loc) (ls : Array Slot), gX D (xcell g cI cB cZ cQ) xord g S s H locs → lv_has ls 4 [(0, .ref (g 0)), (1, .int x1), (2, .int x2), (3, .int x3)] → r9 x1 x2 x3 S = some o → W p l e (rmx 7 1) s m args below meth c H locs 1 6 (gEX below args s D (xtys cI cB cZ cQ) (xcell g cI cB cZ cQ) xord g 1 false o) (F0 m 9 ls [])) (X : gX D (xcell g cI cB cZ cQ) xord g S s H locs) (hl : lv_has ls 4 [(0, .ref (g 0)), (1, .int x1), (2, .int x2), (3, .int x3)]) (hF : fX11_rhythm_b28 N r9 x1 x2 x3 S = some o) : W p l e (rmx 7 1) s m args below meth c H locs 1 6 (gEX below args s D (xtys cI cB cZ cQ) (xcell g cI cB cZ cQ) xord g 1 false o) (F0 m 28 ls []) := by
  unfold fX11_rhythm_b28 at hF
  refine lv_iload_n C.1.1 C.1.2.1 dX11_rhythm_28 rfl (lv_at hl 2 rfl) ?_
  refine lv_aload_n C.1.1 C.1.2.1 dX11_rhythm_29 rfl (lv_at hl 0 rfl) ?_
  obtain ⟨T1, eT1, hF⟩ := lt_some hF
  have hk_T1 := xtw_k eT1
  refine xg_X11_57 C O.1.1 X (T := T1) eT1 (k := 0) rfl dX11_rhythm_30 ?_
  refine xg_X11_165 C O.1.1 X (k := T1) hk_T1 (j := T1 + 1) rfl dX11_rhythm_33 ?_
  refine lv_iload_n C.1.1 C.1.2.1 dX11_rhythm_36 rfl (lv_at hl 3 rfl) ?_
  obtain ⟨h_1, hF⟩ := chk_some hF
  refine x_rI C X (k := T1 + 1) (xs_9_1 hk_T1).1 (n := 8) (xs_9_1 hk_T1).2  (inb_vp h_1) rfl dX11_rhythm_37 ?_
  obtain ⟨q1, hq1, hF⟩ := bnd_some hF
  refine g_callSi C X xv_X11_287 (kX11_leastCommon O.1.1 C.2.2.2.2.1 N x2 (S (T1 + 1) (Int32.toNatClampNeg x3)) S q1 hq1) (Nat.le_of_ble_eq_true rfl) (Nat.le_of_ble_eq_true rfl) (Nat.le_of_ble_eq_true rfl) (Nat.le_of_ble_eq_true rfl) rfl hl.1 rfl (Nat.le_of_ble_eq_true rfl) dX11_rhythm_38 (fun H locs X => ?_)
  refine lv_istore_n (lv' := [(2, .int q1.1), (0, .ref (g 0)), (1, .int x1), (3, .int x3)]) C.1.1 C.1.2.1 dX11_rhythm_41 rfl hl (by decide) rfl (fun ls hl => ?_)
  exact bX11_rhythm_42 C O Tb K9 X (lv_sub hl [1, 2, 0, 3] rfl) hF
noncomputable def fX11_rhythm_b20 (N : Nat) (r9 : Int32 → Int32 → Int32 → gS → Option (tR)) (x1 : Int32) (x2 : Int32) (x3 : Int32) (S : gS) : Option (tR) := bnd (fX11_isOneOf N x1 x3 S) fun q1 => (if q1.1 = 0 then fX11_rhythm_b42 N r9 x1 x2 x3 q1.2 else fX11_rhythm_b28 N r9 x1 x2 x3 q1.2)
theorem bX11_rhythm_20 {N : Nat} {r9 : Int32 → Int32 → Int32 → gS → Option (tR)} {x1 : Int32} {x2 : Int32} {x3 : Int32} {S : gS} {H : Heap} {locs : List Loc} {ls : Array Slot} {o : tR} (C : gC p s m args meth c cX11_rhythm 4 RX11 ((some .int)) D (xtys cI cB cZ cQ) xord g Am) (O : tO l g cI cB cZ cQ Am aK aV) (Tb : ∀ x ∈ c.exceptionTable.toList, False) (K9 : ∀ (x1 : Int32) (x2 : Int32) (x3 : Int32) (S : gS) (H : Heap) (locs : List Loc) (ls : Array Slot), gX D (xcell g cI cB cZ cQ) xord g S s H locs → lv_has ls 4 [(0, .ref (g 0)), (1, .int x1), (2, .int x2), (3, .int x3)] → r9 x1 x2 x3 S = some o → W p l e (rmx 7 1) s m args below meth c H locs 1 6 (gEX below args s D (xtys cI cB cZ cQ) (xcell g cI cB cZ cQ) xord g 1 false o) (F0 m 9 ls [])) (X : gX D (xcell g cI cB cZ cQ) xord g S s H locs) (hl : lv_has ls 4 [(0, .ref (g 0)), (1, .int x1), (2, .int x2), (3, .int x3)]) (hF : fX11_rhythm_b20 N r9 x1 x2 x3 S = some o) : W p l e (rmx 7 1) s m args below meth c H locs 1 6 (gEX below args s D (xtys cI cB cZ cQ) (xcell g cI cB cZ cQ) xord g 1 false o) (F0 m 20 ls []) := by
  unfold fX11_rhythm_b20 at hF
  refine lv_iload_n C.1.1 C.1.2.1 dX11_rhythm_20 rfl (lv_at hl 1 rfl) ?_
  refine lv_iload_n C.1.1 C.1.2.1 dX11_rhythm_21 rfl (lv_at hl 3 rfl) ?_
  obtain ⟨q1, hq1, hF⟩ := bnd_some hF
  refine g_callSi C X xv_X11_279 (kX11_isOneOf O.1.1 C.2.2.2.2.1 N x1 x3 S q1 hq1) (Nat.le_of_ble_eq_true rfl) (Nat.le_of_ble_eq_true rfl) (Nat.le_of_ble_eq_true rfl) (Nat.le_of_ble_eq_true rfl) rfl hl.1 rfl (Nat.le_of_ble_eq_true rfl) dX11_rhythm_22 (fun H locs X => ?_)
  refine lv_if_eq (tgt := 42) C.1.1 C.1.2.1 dX11_rhythm_25 (by decide) (fun h_z => ?_) (fun h_z => ?_)
  · rw [if_pos h_z] at hF
    exact bX11_rhythm_42 C O Tb K9 X (lv_sub hl [0, 1, 2, 3] rfl) hF
  · rw [if_neg h_z] at hF
    exact bX11_rhythm_28 C O Tb K9 X (lv_sub hl [0, 1, 2, 3] rfl) hF
noncomputable def fX11_rhythm_b9 (N : Nat) (r9 : Int32 → Int32 → Int32 → gS → Option (tR)) (x1 : Int32) (x2 : Int32) (x3 : Int32) (S : gS) : Option (tR) := lt (xtw S) fun T1 => (if (S T1 0) ≤ x3 then fX11_rhythm_b48 N x2 S else fX11_rhythm_b20 N r9 x1 x2 x3 S)
theorem bX11_rhythm_9 {N : Nat} {r9 : Int32 → Int32 → Int32 → gS → Option (tR)} {x1 : Int32} {x2 : Int32} {x3 : Int32} {S : gS} {H : Heap} {locs : List Loc} {ls : Array Slot} {o : tR} (C : gC p s m args meth c cX11_rhythm 4 RX11 ((some .int)) D (xtys cI cB cZ cQ) xord g Am) (O : tO l g cI cB cZ cQ Am aK aV) (Tb : ∀ x ∈ c.exceptionTable.toList, False) (K9 : ∀ (x1 : Int32) (x2 : Int32) (x3 : Int32) (S : gS) (H : Heap) (locs : List Loc) (ls : Array Slot), gX D (xcell g cI cB cZ cQ) xord g S s H locs → lv_has ls 4 [(0, .ref (g 0)), (1, .int x1), (2, .int x2), (3, .int x3)] → r9 x1 x2 x3 S = some o → W p l e (rmx 7 1) s m args below meth c H locs 1 6 (gEX below args s D (xtys cI cB cZ cQ) (xcell g cI cB cZ cQ) xord g 1 false o) (F0 m 9 ls [])) (X : gX D (xcell g cI cB cZ cQ) xord g S s H locs) (hl : lv_has ls 4 [(0, .ref (g 0)), (1, .int x1), (2, .int x2), (3, .int x3)]) (hF : fX11_rhythm_b9 N r9 x1 x2 x3 S = some o) : W p l e (rmx 7 1) s m args below meth c H locs 1 6 (gEX below args s D (xtys cI cB cZ cQ) (xcell g cI cB cZ cQ) xord g 1 false o) (F0 m 9 ls []) := by
  unfold fX11_rhythm_b9 at hF
  refine lv_iload_n C.1.1 C.1.2.1 dX11_rhythm_9 rfl (lv_at hl 3 rfl) ?_
  refine lv_aload_n C.1.1 C.1.2.1 dX11_rhythm_10 rfl (lv_at hl 0 rfl) ?_
  obtain ⟨T1, eT1, hF⟩ := lt_some hF
  have hk_T1 := xtw_k eT1
  refine xg_X11_57 C O.1.1 X (T := T1) eT1 (k := 0) rfl dX11_rhythm_11 ?_
  refine xg_X11_108 C O.1.1 X (k := T1) hk_T1 dX11_rhythm_14 ?_
  refine lv_icmp_ge (tgt := 48) C.1.1 C.1.2.1 dX11_rhythm_17 (by decide) (fun h_z => ?_) (fun h_z => ?_)
  · rw [if_pos h_z] at hF
    exact bX11_rhythm_48 C O Tb X (lv_sub hl [2] rfl) hF
  · rw [if_neg h_z] at hF
    exact bX11_rhythm_20 C O Tb K9 X (lv_sub hl [0, 1, 2, 3] rfl) hF
noncomputable def fX11_rhythm_h9 (N : Nat) : Nat → Int32 → Int32 → Int32 → gS → Option (tR)
  | 0, _, _, _, _ => none
  | n + 1, x1, x2, x3, S => fX11_rhythm_b9 N (fX11_rhythm_h9 N n) x1 x2 x3 S
theorem hX11_rhythm_9 {N : Nat} {o : tR} (C : gC p s m args meth c cX11_rhythm 4 RX11 ((some .int)) D (xtys cI cB cZ cQ) xord g Am) (O : tO l g cI cB cZ cQ Am aK aV) (Tb : ∀ x ∈ c.exceptionTable.toList, False) : ∀ (n : Nat) (x1 : Int32) (x2 : Int32) (x3 : Int32) (S : gS) (H : Heap) (locs : List Loc) (ls : Array Slot), gX D (xcell g cI cB cZ cQ) xord g S s H locs → lv_has ls 4 [(0, .ref (g 0)), (1, .int x1), (2, .int x2), (3, .int x3)] → fX11_rhythm_h9 N n x1 x2 x3 S = some o → W p l e (rmx 7 1) s m args below meth c H locs 1 6 (gEX below args s D (xtys cI cB cZ cQ) (xcell g cI cB cZ cQ) xord g 1 false o) (F0 m 9 ls []) := by
  intro n
  induction n with
  | zero =>
    intro x1 x2 x3 S H locs ls X hl hF
    exact absurd (show (none : Option (tR)) = some o from hF) (by simp)
  | succ n ih =>
    intro x1 x2 x3 S H locs ls X hl hF
    have hF : fX11_rhythm_b9 N (fX11_rhythm_h9 N n) x1 x2 x3 S = some o := hF
    exact bX11_rhythm_9 C O Tb ih X hl hF
noncomputable def fX11_rhythm_b0 (N : Nat) (x1 : Int32) (S : gS) : Option (tR) := bnx (fX11_needGrottoes N x1 S) fun q1 => (fX11_rhythm_h9 N N x1 1 0 q1.2.2)
theorem bX11_rhythm_0 {N : Nat} {x1 : Int32} {S : gS} {H : Heap} {locs : List Loc} {ls : Array Slot} {o : tR} (C : gC p s m args meth c cX11_rhythm 4 RX11 ((some .int)) D (xtys cI cB cZ cQ) xord g Am) (O : tO l g cI cB cZ cQ Am aK aV) (Tb : ∀ x ∈ c.exceptionTable.toList, False) (X : gX D (xcell g cI cB cZ cQ) xord g S s H locs) (hl : lv_has ls 4 [(0, .ref (g 0)), (1, .int x1)]) (hF : fX11_rhythm_b0 N x1 S = some o) : W p l e (rmx 7 1) s m args below meth c H locs 0 0 (gEX below args s D (xtys cI cB cZ cQ) (xcell g cI cB cZ cQ) xord g 1 false o) (F0 m 0 ls []) := by
  unfold fX11_rhythm_b0 at hF
  refine lv_aload_n C.1.1 C.1.2.1 dX11_rhythm_0 rfl (lv_at hl 0 rfl) ?_
  refine lv_iload_n C.1.1 C.1.2.1 dX11_rhythm_1 rfl (lv_at hl 1 rfl) ?_
  rcases (bnx_some hF).symm with ⟨q1, hq1, zq1, eo⟩ | ⟨q1, hq1, zq1, hF⟩
  · subst eo
    exact t_thr (x_preT C X xv_X11_276 rfl (kX11_needGrottoes O C.2.2.2.2.1 N x1 S q1 hq1) (Nat.le_of_ble_eq_true rfl) (Nat.le_of_ble_eq_true rfl) (Nat.le_of_ble_eq_true rfl) (Nat.le_of_ble_eq_true rfl) rfl hl.1 rfl (Nat.le_of_ble_eq_true rfl) dX11_rhythm_2) zq1 C Tb X (by decide) (by decide)
  refine t_okv (x_preT C X xv_X11_276 rfl (kX11_needGrottoes O C.2.2.2.2.1 N x1 S q1 hq1) (Nat.le_of_ble_eq_true rfl) (Nat.le_of_ble_eq_true rfl) (Nat.le_of_ble_eq_true rfl) (Nat.le_of_ble_eq_true rfl) rfl hl.1 rfl (Nat.le_of_ble_eq_true rfl) dX11_rhythm_2) zq1 X (fun H locs X => ?_)
  refine W.widen (k := 1) (n := 6) (by decide) (by decide) ?_
  refine lv_iconst (v := 1) C.1.1 C.1.2.1 dX11_rhythm_5 (by decide) ?_
  refine lv_istore_n (lv' := [(2, .int 1), (0, .ref (g 0)), (1, .int x1)]) C.1.1 C.1.2.1 dX11_rhythm_6 rfl hl (by decide) rfl (fun ls hl => ?_)
  refine lv_iconst (v := 0) C.1.1 C.1.2.1 dX11_rhythm_7 (by decide) ?_
  refine lv_istore_n (lv' := [(3, .int 0), (2, .int 1), (0, .ref (g 0)), (1, .int x1)]) C.1.1 C.1.2.1 dX11_rhythm_8 rfl hl (by decide) rfl (fun ls hl => ?_)
  exact hX11_rhythm_9 C O Tb N _ _ _ _ _ _ _ X (lv_sub hl [2, 3, 1, 0] rfl) hF
noncomputable def fX11_rhythm (N : Nat) (x1 : Int32) (S : gS) : Option (tR) := fX11_rhythm_b0 N x1 S
theorem kX11_rhythm {l : Launch} {D : va_G} {g : Nat → Nat} {cI cB cZ cQ : ClassId} {Am : (Nat → Prop) → State → Heap → Prop} {aK aV : Nat → Nat} (O : tO l g cI cB cZ cQ Am aK aV) (P : gAm Am) (N : Nat) (x1 : Int32) (S : gS) (o : tR) (hF : fX11_rhythm N x1 S = some o) : gN l yX11_rhythm cX11_rhythm 4 ((some .int)) 7 1 D (xtys cI cB cZ cQ) (xcell g cI cB cZ cQ) xord g Am [.ref (g 0), .int x1] S false o :=
  gN_of P (by decide) (Nat.le_of_ble_eq_true rfl) (fun p e s m args below meth c ls C Tb X hl => bX11_rhythm_0 C O Tb X (lv_sub hl [0, 1] rfl) hF)
-- X11.often
noncomputable def fX11_often_b42 (N : Nat) (x3 : Int32) (S : gS) : Option (tR) := some (0, x3, S)
theorem bX11_often_42 {N : Nat} {x3 : Int32} {S : gS} {H : Heap} {locs : List Loc} {ls : Array Slot} {o : tR} (C : gC p s m args meth c cX11_often 5 RX11 ((some .int)) D (xtys cI cB cZ cQ) xord g Am) (O : tO l g cI cB cZ cQ Am aK aV) (Tb : ∀ x ∈ c.exceptionTable.toList, False) (X : gX D (xcell g cI cB cZ cQ) xord g S s H locs) (hl : lv_has ls 5 [(3, .int x3)]) (hF : fX11_often_b42 N x3 S = some o) : W p l e (rmx 7 2) s m args below meth c H locs 2 12 (gEX below args s D (xtys cI cB cZ cQ) (xcell g cI cB cZ cQ) xord g 2 false o) (F0 m 42 ls []) := by
  unfold fX11_often_b42 at hF
  refine lv_iload_n C.1.1 C.1.2.1 dX11_often_42 rfl (lv_at hl 0 rfl) ?_
  cases hF
  exact t_iret C X (by decide) (by decide) dX11_often_43
noncomputable def fX11_often_b36 (N : Nat) (r17 : Int32 → Int32 → Int32 → Int32 → gS → Option (tR)) (x1 : Int32) (x2 : Int32) (x3 : Int32) (x4 : Int32) (S : gS) : Option (tR) := r17 x1 x2 x3 ((x4 + 1 : Int32)) S
theorem bX11_often_36 {N : Nat} {r17 : Int32 → Int32 → Int32 → Int32 → gS → Option (tR)} {x1 : Int32} {x2 : Int32} {x3 : Int32} {x4 : Int32} {S : gS} {H : Heap} {locs : List Loc} {ls : Array Slot} {o : tR} (C : gC p s m args meth c cX11_often 5 RX11 ((some .int)) D (xtys cI cB cZ cQ) xord g Am) (O : tO l g cI cB cZ cQ Am aK aV) (Tb : ∀ x ∈ c.exceptionTable.toList, False) (K17 : ∀ (x1 : Int32) (x2 : Int32) (x3 : Int32) (x4 : Int32) (S : gS) (H : Heap) (locs : List Loc) (ls : Array Slot), gX D (xcell g cI cB cZ cQ) xord g S s H locs → lv_has ls 5 [(0, .ref (g 0)), (1, .int x1), (2, .int x2), (3, .int x3), (4, .int x4)] → r17 x1 x2 x3 x4 S = some o → W p l e (rmx 7 2) s m args below meth c H locs 2 12 (gEX below args s D (xtys cI cB cZ cQ) (xcell g cI cB cZ cQ) xord g 2 false o) (F0 m 17 ls [])) (X : gX D (xcell g cI cB cZ cQ) xord g S s H locs) (hl : lv_has ls 5 [(0, .ref (g 0)), (1, .int x1), (2, .int x2), (3, .int x3), (4, .int x4)]) (hF : fX11_often_b36 N r17 x1 x2 x3 x4 S = some o) : W p l e (rmx 7 2) s m args below meth c H locs 2 12 (gEX below args s D (xtys cI cB cZ cQ) (xcell g cI cB cZ cQ) xord g 2 false o) (F0 m 36 ls []) := by
  unfold fX11_often_b36 at hF
  refine lv_iinc (v := (x4 + 1 : Int32)) (lv' := [(4, .int ((x4 + 1 : Int32))), (0, .ref (g 0)), (1, .int x1), (2, .int x2), (3, .int x3)]) C.1.1 C.1.2.1 dX11_often_36 hl (k := 4) rfl rfl (by decide) rfl (fun ls hl => ?_)
  refine lv_goto (tgt := 17) C.1.1 C.1.2.1 dX11_often_39 (by decide) ?_
  exact K17 _ _ _ _ _ _ _ _ X (lv_sub hl [1, 2, 3, 4, 0] rfl) hF
noncomputable def fX11_often_b33 (N : Nat) (r17 : Int32 → Int32 → Int32 → Int32 → gS → Option (tR)) (x1 : Int32) (x2 : Int32) (x3 : Int32) (x4 : Int32) (S : gS) : Option (tR) := fX11_often_b36 N r17 x1 x2 ((x3 + 1 : Int32)) x4 S
theorem bX11_often_33 {N : Nat} {r17 : Int32 → Int32 → Int32 → Int32 → gS → Option (tR)} {x1 : Int32} {x2 : Int32} {x3 : Int32} {x4 : Int32} {S : gS} {H : Heap} {locs : List Loc} {ls : Array Slot} {o : tR} (C : gC p s m args meth c cX11_often 5 RX11 ((some .int)) D (xtys cI cB cZ cQ) xord g Am) (O : tO l g cI cB cZ cQ Am aK aV) (Tb : ∀ x ∈ c.exceptionTable.toList, False) (K17 : ∀ (x1 : Int32) (x2 : Int32) (x3 : Int32) (x4 : Int32) (S : gS) (H : Heap) (locs : List Loc) (ls : Array Slot), gX D (xcell g cI cB cZ cQ) xord g S s H locs → lv_has ls 5 [(0, .ref (g 0)), (1, .int x1), (2, .int x2), (3, .int x3), (4, .int x4)] → r17 x1 x2 x3 x4 S = some o → W p l e (rmx 7 2) s m args below meth c H locs 2 12 (gEX below args s D (xtys cI cB cZ cQ) (xcell g cI cB cZ cQ) xord g 2 false o) (F0 m 17 ls [])) (X : gX D (xcell g cI cB cZ cQ) xord g S s H locs) (hl : lv_has ls 5 [(0, .ref (g 0)), (1, .int x1), (2, .int x2), (3, .int x3), (4, .int x4)]) (hF : fX11_often_b33 N r17 x1 x2 x3 x4 S = some o) : W p l e (rmx 7 2) s m args below meth c H locs 2 12 (gEX below args s D (xtys cI cB cZ cQ) (xcell g cI cB cZ cQ) xord g 2 false o) (F0 m 33 ls []) := by
  unfold fX11_often_b33 at hF
  refine lv_iinc (v := (x3 + 1 : Int32)) (lv' := [(3, .int ((x3 + 1 : Int32))), (0, .ref (g 0)), (1, .int x1), (2, .int x2), (4, .int x4)]) C.1.1 C.1.2.1 dX11_often_33 hl (k := 3) rfl rfl (by decide) rfl (fun ls hl => ?_)
  exact bX11_often_36 C O Tb K17 X (lv_sub hl [1, 2, 3, 0, 4] rfl) hF
noncomputable def fX11_often_b23 (N : Nat) (r17 : Int32 → Int32 → Int32 → Int32 → gS → Option (tR)) (x1 : Int32) (x2 : Int32) (x3 : Int32) (x4 : Int32) (S : gS) : Option (tR) := bnd (fX11_dripsAhead N x1 x4 S) fun q1 => (if q1.1 = 0 then fX11_often_b36 N r17 x1 x2 x3 x4 q1.2 else fX11_often_b33 N r17 x1 x2 x3 x4 q1.2)
theorem bX11_often_23 {N : Nat} {r17 : Int32 → Int32 → Int32 → Int32 → gS → Option (tR)} {x1 : Int32} {x2 : Int32} {x3 : Int32} {x4 : Int32} {S : gS} {H : Heap} {locs : List Loc} {ls : Array Slot} {o : tR} (C : gC p s m args meth c cX11_often 5 RX11 ((some .int)) D (xtys cI cB cZ cQ) xord g Am) (O : tO l g cI cB cZ cQ Am aK aV) (Tb : ∀ x ∈ c.exceptionTable.toList, False) (K17 : ∀ (x1 : Int32) (x2 : Int32) (x3 : Int32) (x4 : Int32) (S : gS) (H : Heap) (locs : List Loc) (ls : Array Slot), gX D (xcell g cI cB cZ cQ) xord g S s H locs → lv_has ls 5 [(0, .ref (g 0)), (1, .int x1), (2, .int x2), (3, .int x3), (4, .int x4)] → r17 x1 x2 x3 x4 S = some o → W p l e (rmx 7 2) s m args below meth c H locs 2 12 (gEX below args s D (xtys cI cB cZ cQ) (xcell g cI cB cZ cQ) xord g 2 false o) (F0 m 17 ls [])) (X : gX D (xcell g cI cB cZ cQ) xord g S s H locs) (hl : lv_has ls 5 [(0, .ref (g 0)), (1, .int x1), (2, .int x2), (3, .int x3), (4, .int x4)]) (hF : fX11_often_b23 N r17 x1 x2 x3 x4 S = some o) : W p l e (rmx 7 2) s m args below meth c H locs 2 12 (gEX below args s D (xtys cI cB cZ cQ) (xcell g cI cB cZ cQ) xord g 2 false o) (F0 m 23 ls []) := by
  unfold fX11_often_b23 at hF
  refine lv_aload_n C.1.1 C.1.2.1 dX11_often_23 rfl (lv_at hl 0 rfl) ?_
  refine lv_iload_n C.1.1 C.1.2.1 dX11_often_24 rfl (lv_at hl 1 rfl) ?_
  refine lv_iload C.1.1 C.1.2.1 dX11_often_25 (lv_at hl 4 rfl) ?_
  obtain ⟨q1, hq1, hF⟩ := bnd_some hF
  refine x_callVi C X (k := 0) xv_X11_290 (rfl : xk 0 = 11) rfl rfl (by decide) (kX11_dripsAhead O.1.1 C.2.2.2.2.1 N x1 x4 S q1 hq1) (Nat.le_of_ble_eq_true rfl) (Nat.le_of_ble_eq_true rfl) (Nat.le_of_ble_eq_true rfl) (Nat.le_of_ble_eq_true rfl) rfl hl.1 rfl (Nat.le_of_ble_eq_true rfl) dX11_often_27 (fun H locs X => ?_)
  refine lv_if_eq (tgt := 36) C.1.1 C.1.2.1 dX11_often_30 (by decide) (fun h_z => ?_) (fun h_z => ?_)
  · rw [if_pos h_z] at hF
    exact bX11_often_36 C O Tb K17 X (lv_sub hl [0, 1, 2, 3, 4] rfl) hF
  · rw [if_neg h_z] at hF
    exact bX11_often_33 C O Tb K17 X (lv_sub hl [0, 1, 2, 3, 4] rfl) hF
noncomputable def fX11_often_b17 (N : Nat) (r17 : Int32 → Int32 → Int32 → Int32 → gS → Option (tR)) (x1 : Int32) (x2 : Int32) (x3 : Int32) (x4 : Int32) (S : gS) : Option (tR) := if x2 < x4 then fX11_often_b42 N x3 S else fX11_often_b23 N r17 x1 x2 x3 x4 S
theorem bX11_often_17 {N : Nat} {r17 : Int32 → Int32 → Int32 → Int32 → gS → Option (tR)} {x1 : Int32} {x2 : Int32} {x3 : Int32} {x4 : Int32} {S : gS} {H : Heap} {locs : List Loc} {ls : Array Slot} {o : tR} (C : gC p s m args meth c cX11_often 5 RX11 ((some .int)) D (xtys cI cB cZ cQ) xord g Am) (O : tO l g cI cB cZ cQ Am aK aV) (Tb : ∀ x ∈ c.exceptionTable.toList, False) (K17 : ∀ (x1 : Int32) (x2 : Int32) (x3 : Int32) (x4 : Int32) (S : gS) (H : Heap) (locs : List Loc) (ls : Array Slot), gX D (xcell g cI cB cZ cQ) xord g S s H locs → lv_has ls 5 [(0, .ref (g 0)), (1, .int x1), (2, .int x2), (3, .int x3), (4, .int x4)] → r17 x1 x2 x3 x4 S = some o → W p l e (rmx 7 2) s m args below meth c H locs 2 12 (gEX below args s D (xtys cI cB cZ cQ) (xcell g cI cB cZ cQ) xord g 2 false o) (F0 m 17 ls [])) (X : gX D (xcell g cI cB cZ cQ) xord g S s H locs) (hl : lv_has ls 5 [(0, .ref (g 0)), (1, .int x1), (2, .int x2), (3, .int x3), (4, .int x4)]) (hF : fX11_often_b17 N r17 x1 x2 x3 x4 S = some o) : W p l e (rmx 7 2) s m args below meth c H locs 2 12 (gEX below args s D (xtys cI cB cZ cQ) (xcell g cI cB cZ cQ) xord g 2 false o) (F0 m 17 ls []) := by
  unfold fX11_often_b17 at hF
  refine lv_iload C.1.1 C.1.2.1 dX11_often_17 (lv_at hl 4 rfl) ?_
  refine lv_iload_n C.1.1 C.1.2.1 dX11_often_19 rfl (lv_at hl 2 rfl) ?_
  refine lv_icmp_gt (tgt := 42) C.1.1 C.1.2.1 dX11_often_20 (by decide) (fun h_z => ?_) (fun h_z => ?_)
  · rw [if_pos h_z] at hF
    exact bX11_often_42 C O Tb X (lv_sub hl [3] rfl) hF
  · rw [if_neg h_z] at hF
    exact bX11_often_23 C O Tb K17 X (lv_sub hl [0, 1, 2, 3, 4] rfl) hF
noncomputable def fX11_often_h17 (N : Nat) : Nat → Int32 → Int32 → Int32 → Int32 → gS → Option (tR)
  | 0, _, _, _, _, _ => none
  | n + 1, x1, x2, x3, x4, S => fX11_often_b17 N (fX11_often_h17 N n) x1 x2 x3 x4 S
theorem hX11_often_17 {N : Nat} {o : tR} (C : gC p s m args meth c cX11_often 5 RX11 ((some .int)) D (xtys cI cB cZ cQ) xord g Am) (O : tO l g cI cB cZ cQ Am aK aV) (Tb : ∀ x ∈ c.exceptionTable.toList, False) : ∀ (n : Nat) (x1 : Int32) (x2 : Int32) (x3 : Int32) (x4 : Int32) (S : gS) (H : Heap) (locs : List Loc) (ls : Array Slot), gX D (xcell g cI cB cZ cQ) xord g S s H locs → lv_has ls 5 [(0, .ref (g 0)), (1, .int x1), (2, .int x2), (3, .int x3), (4, .int x4)] → fX11_often_h17 N n x1 x2 x3 x4 S = some o → W p l e (rmx 7 2) s m args below meth c H locs 2 12 (gEX below args s D (xtys cI cB cZ cQ) (xcell g cI cB cZ cQ) xord g 2 false o) (F0 m 17 ls []) := by
  intro n
  induction n with
  | zero =>
    intro x1 x2 x3 x4 S H locs ls X hl hF
    exact absurd (show (none : Option (tR)) = some o from hF) (by simp)
  | succ n ih =>
    intro x1 x2 x3 x4 S H locs ls X hl hF
    have hF : fX11_often_b17 N (fX11_often_h17 N n) x1 x2 x3 x4 S = some o := hF
    exact bX11_often_17 C O Tb ih X hl hF
noncomputable def fX11_often_b0 (N : Nat) (x1 : Int32) (x2 : Int32) (S : gS) : Option (tR) := bnx (fX11_needGrotto N x1 S) fun q1 => (bnx (fX11_needWithin N x2 0 60 q1.2.2) fun q2 => (fX11_often_h17 N N x1 x2 0 1 q2.2.2))
theorem bX11_often_0 {N : Nat} {x1 : Int32} {x2 : Int32} {S : gS} {H : Heap} {locs : List Loc} {ls : Array Slot} {o : tR} (C : gC p s m args meth c cX11_often 5 RX11 ((some .int)) D (xtys cI cB cZ cQ) xord g Am) (O : tO l g cI cB cZ cQ Am aK aV) (Tb : ∀ x ∈ c.exceptionTable.toList, False) (X : gX D (xcell g cI cB cZ cQ) xord g S s H locs) (hl : lv_has ls 5 [(0, .ref (g 0)), (1, .int x1), (2, .int x2)]) (hF : fX11_often_b0 N x1 x2 S = some o) : W p l e (rmx 7 2) s m args below meth c H locs 0 0 (gEX below args s D (xtys cI cB cZ cQ) (xcell g cI cB cZ cQ) xord g 2 false o) (F0 m 0 ls []) := by
  unfold fX11_often_b0 at hF
  refine lv_aload_n C.1.1 C.1.2.1 dX11_often_0 rfl (lv_at hl 0 rfl) ?_
  refine lv_iload_n C.1.1 C.1.2.1 dX11_often_1 rfl (lv_at hl 1 rfl) ?_
  rcases (bnx_some hF).symm with ⟨q1, hq1, zq1, eo⟩ | ⟨q1, hq1, zq1, hF⟩
  · subst eo
    exact t_thr (x_preT C X xv_X11_162 rfl (kX11_needGrotto O C.2.2.2.2.1 N x1 S q1 hq1) (Nat.le_of_ble_eq_true rfl) (Nat.le_of_ble_eq_true rfl) (Nat.le_of_ble_eq_true rfl) (Nat.le_of_ble_eq_true rfl) rfl hl.1 rfl (Nat.le_of_ble_eq_true rfl) dX11_often_2) zq1 C Tb X (by decide) (by decide)
  refine t_okv (x_preT C X xv_X11_162 rfl (kX11_needGrotto O C.2.2.2.2.1 N x1 S q1 hq1) (Nat.le_of_ble_eq_true rfl) (Nat.le_of_ble_eq_true rfl) (Nat.le_of_ble_eq_true rfl) (Nat.le_of_ble_eq_true rfl) rfl hl.1 rfl (Nat.le_of_ble_eq_true rfl) dX11_often_2) zq1 X (fun H locs X => ?_)
  refine W.widen (k := 1) (n := 6) (by decide) (by decide) ?_
  refine lv_iload_n C.1.1 C.1.2.1 dX11_often_5 rfl (lv_at hl 2 rfl) ?_
  refine lv_iconst (v := 0) C.1.1 C.1.2.1 dX11_often_6 (by decide) ?_
  refine lv_bipush (v := 60) C.1.1 C.1.2.1 dX11_often_7 (by decide) ?_
  rcases (bnx_some hF).symm with ⟨q2, hq2, zq2, eo⟩ | ⟨q2, hq2, zq2, hF⟩
  · subst eo
    exact t_thr (t_preS C X xv_X11_239 (kX11_needWithin O C.2.2.2.2.1 N x2 0 60 q1.2.2 q2 hq2) (Nat.le_of_ble_eq_true rfl) (Nat.le_of_ble_eq_true rfl) (Nat.le_of_ble_eq_true rfl) (Nat.le_of_ble_eq_true rfl) rfl hl.1 rfl (Nat.le_of_ble_eq_true rfl) dX11_often_9) zq2 C Tb X (by decide) (by decide)
  refine t_okv (t_preS C X xv_X11_239 (kX11_needWithin O C.2.2.2.2.1 N x2 0 60 q1.2.2 q2 hq2) (Nat.le_of_ble_eq_true rfl) (Nat.le_of_ble_eq_true rfl) (Nat.le_of_ble_eq_true rfl) (Nat.le_of_ble_eq_true rfl) rfl hl.1 rfl (Nat.le_of_ble_eq_true rfl) dX11_often_9) zq2 X (fun H locs X => ?_)
  refine W.widen (k := 2) (n := 12) (by decide) (by decide) ?_
  refine lv_iconst (v := 0) C.1.1 C.1.2.1 dX11_often_12 (by decide) ?_
  refine lv_istore_n (lv' := [(3, .int 0), (0, .ref (g 0)), (1, .int x1), (2, .int x2)]) C.1.1 C.1.2.1 dX11_often_13 rfl hl (by decide) rfl (fun ls hl => ?_)
  refine lv_iconst (v := 1) C.1.1 C.1.2.1 dX11_often_14 (by decide) ?_
  refine lv_istore (lv' := [(4, .int 1), (3, .int 0), (0, .ref (g 0)), (1, .int x1), (2, .int x2)]) C.1.1 C.1.2.1 dX11_often_15 hl (by decide) rfl (fun ls hl => ?_)
  exact hX11_often_17 C O Tb N _ _ _ _ _ _ _ _ X (lv_sub hl [2, 3, 4, 1, 0] rfl) hF
noncomputable def fX11_often (N : Nat) (x1 : Int32) (x2 : Int32) (S : gS) : Option (tR) := fX11_often_b0 N x1 x2 S
theorem kX11_often {l : Launch} {D : va_G} {g : Nat → Nat} {cI cB cZ cQ : ClassId} {Am : (Nat → Prop) → State → Heap → Prop} {aK aV : Nat → Nat} (O : tO l g cI cB cZ cQ Am aK aV) (P : gAm Am) (N : Nat) (x1 : Int32) (x2 : Int32) (S : gS) (o : tR) (hF : fX11_often N x1 x2 S = some o) : gN l yX11_often cX11_often 5 ((some .int)) 7 2 D (xtys cI cB cZ cQ) (xcell g cI cB cZ cQ) xord g Am [.ref (g 0), .int x1, .int x2] S false o :=
  gN_of P (by decide) (Nat.le_of_ble_eq_true rfl) (fun p e s m args below meth c ls C Tb X hl => bX11_often_0 C O Tb X (lv_sub hl [0, 1, 2] rfl) hF)
-- X11.toHire
noncomputable def fX11_toHire_b156 (N : Nat) (t0 : Int32) (S : gS) : Option (tR) := some (0, t0, S)
theorem bX11_toHire_156 {N : Nat} {t0 : Int32} {S : gS} {H : Heap} {locs : List Loc} {ls : Array Slot} {o : tR} (C : gC p s m args meth c cX11_toHire 8 RX11 ((some .int)) D (xtys cI cB cZ cQ) xord g Am) (O : tO l g cI cB cZ cQ Am aK aV) (Tb : ∀ x ∈ c.exceptionTable.toList, False) (X : gX D (xcell g cI cB cZ cQ) xord g S s H locs) (hl : lv_has ls 8 []) (hF : fX11_toHire_b156 N t0 S = some o) : W p l e (rmx 7 3) s m args below meth c H locs 3 18 (gEX below args s D (xtys cI cB cZ cQ) (xcell g cI cB cZ cQ) xord g 3 false o) (F0 m 156 ls [.int t0]) := by
  unfold fX11_toHire_b156 at hF
  cases hF
  exact t_iret C X (by decide) (by decide) dX11_toHire_156
noncomputable def fX11_toHire_b154 (N : Nat) (x5 : Int32) (S : gS) : Option (tR) := fX11_toHire_b156 N x5 S
theorem bX11_toHire_154 {N : Nat} {x5 : Int32} {S : gS} {H : Heap} {locs : List Loc} {ls : Array Slot} {o : tR} (C : gC p s m args meth c cX11_toHire 8 RX11 ((some .int)) D (xtys cI cB cZ cQ) xord g Am) (O : tO l g cI cB cZ cQ Am aK aV) (Tb : ∀ x ∈ c.exceptionTable.toList, False) (X : gX D (xcell g cI cB cZ cQ) xord g S s H locs) (hl : lv_has ls 8 [(5, .int x5)]) (hF : fX11_toHire_b154 N x5 S = some o) : W p l e (rmx 7 3) s m args below meth c H locs 3 18 (gEX below args s D (xtys cI cB cZ cQ) (xcell g cI cB cZ cQ) xord g 3 false o) (F0 m 154 ls []) := by
  unfold fX11_toHire_b154 at hF
  refine lv_iload C.1.1 C.1.2.1 dX11_toHire_154 (lv_at hl 0 rfl) ?_
  exact bX11_toHire_156 C O Tb X (lv_sub hl [] rfl) hF
noncomputable def fX11_toHire_b149 (N : Nat) (x4 : Int32) (S : gS) : Option (tR) := fX11_toHire_b156 N x4 S
theorem bX11_toHire_149 {N : Nat} {x4 : Int32} {S : gS} {H : Heap} {locs : List Loc} {ls : Array Slot} {o : tR} (C : gC p s m args meth c cX11_toHire 8 RX11 ((some .int)) D (xtys cI cB cZ cQ) xord g Am) (O : tO l g cI cB cZ cQ Am aK aV) (Tb : ∀ x ∈ c.exceptionTable.toList, False) (X : gX D (xcell g cI cB cZ cQ) xord g S s H locs) (hl : lv_has ls 8 [(4, .int x4)]) (hF : fX11_toHire_b149 N x4 S = some o) : W p l e (rmx 7 3) s m args below meth c H locs 3 18 (gEX below args s D (xtys cI cB cZ cQ) (xcell g cI cB cZ cQ) xord g 3 false o) (F0 m 149 ls []) := by
  unfold fX11_toHire_b149 at hF
  refine lv_iload C.1.1 C.1.2.1 dX11_toHire_149 (lv_at hl 0 rfl) ?_
  refine lv_goto (tgt := 156) C.1.1 C.1.2.1 dX11_toHire_151 (by decide) ?_
  exact bX11_toHire_156 C O Tb X (lv_sub hl [] rfl) hF
noncomputable def fX11_toHire_b145 (N : Nat) (x3 : Int32) (x4 : Int32) (x5 : Int32) (S : gS) : Option (tR) := if x3 = 0 then fX11_toHire_b149 N x4 S else fX11_toHire_b154 N x5 S
theorem bX11_toHire_145 {N : Nat} {x3 : Int32} {x4 : Int32} {x5 : Int32} {S : gS} {H : Heap} {locs : List Loc} {ls : Array Slot} {o : tR} (C : gC p s m args meth c cX11_toHire 8 RX11 ((some .int)) D (xtys cI cB cZ cQ) xord g Am) (O : tO l g cI cB cZ cQ Am aK aV) (Tb : ∀ x ∈ c.exceptionTable.toList, False) (X : gX D (xcell g cI cB cZ cQ) xord g S s H locs) (hl : lv_has ls 8 [(3, .int x3), (4, .int x4), (5, .int x5)]) (hF : fX11_toHire_b145 N x3 x4 x5 S = some o) : W p l e (rmx 7 3) s m args below meth c H locs 3 18 (gEX below args s D (xtys cI cB cZ cQ) (xcell g cI cB cZ cQ) xord g 3 false o) (F0 m 145 ls []) := by
  unfold fX11_toHire_b145 at hF
  refine lv_iload_n C.1.1 C.1.2.1 dX11_toHire_145 rfl (lv_at hl 0 rfl) ?_
  refine lv_if_ne (tgt := 154) C.1.1 C.1.2.1 dX11_toHire_146 (by decide) (fun h_z => ?_) (fun h_z => ?_)
  · rw [if_neg h_z] at hF
    exact bX11_toHire_154 C O Tb X (lv_sub hl [2] rfl) hF
  · rw [if_pos h_z] at hF
    exact bX11_toHire_149 C O Tb X (lv_sub hl [1] rfl) hF
noncomputable def fX11_toHire_b139 (N : Nat) (r26 : Int32 → Int32 → Int32 → Int32 → Int32 → Int32 → gS → Option (tR)) (x1 : Int32) (x2 : Int32) (x3 : Int32) (x4 : Int32) (x5 : Int32) (x6 : Int32) (S : gS) : Option (tR) := r26 x1 x2 x3 x4 x5 ((x6 + 1 : Int32)) S
theorem bX11_toHire_139 {N : Nat} {r26 : Int32 → Int32 → Int32 → Int32 → Int32 → Int32 → gS → Option (tR)} {x1 : Int32} {x2 : Int32} {x3 : Int32} {x4 : Int32} {x5 : Int32} {x6 : Int32} {S : gS} {H : Heap} {locs : List Loc} {ls : Array Slot} {o : tR} (C : gC p s m args meth c cX11_toHire 8 RX11 ((some .int)) D (xtys cI cB cZ cQ) xord g Am) (O : tO l g cI cB cZ cQ Am aK aV) (Tb : ∀ x ∈ c.exceptionTable.toList, False) (K26 : ∀ (x1 : Int32) (x2 : Int32) (x3 : Int32) (x4 : Int32) (x5 : Int32) (x6 : Int32) (S : gS) (H : Heap) (locs : List Loc) (ls : Array Slot), gX D (xcell g cI cB cZ cQ) xord g S s H locs → lv_has ls 8 [(0, .ref (g 0)), (1, .int x1), (2, .int x2), (3, .int x3), (4, .int x4), (5, .int x5), (6, .int x6)] → r26 x1 x2 x3 x4 x5 x6 S = some o → W p l e (rmx 7 3) s m args below meth c H locs 3 18 (gEX below args s D (xtys cI cB cZ cQ) (xcell g cI cB cZ cQ) xord g 3 false o) (F0 m 26 ls [])) (X : gX D (xcell g cI cB cZ cQ) xord g S s H locs) (hl : lv_has ls 8 [(0, .ref (g 0)), (1, .int x1), (2, .int x2), (3, .int x3), (4, .int x4), (5, .int x5), (6, .int x6)]) (hF : fX11_toHire_b139 N r26 x1 x2 x3 x4 x5 x6 S = some o) : W p l e (rmx 7 3) s m args below meth c H locs 3 18 (gEX below args s D (xtys cI cB cZ cQ) (xcell g cI cB cZ cQ) xord g 3 false o) (F0 m 139 ls []) := by
  unfold fX11_toHire_b139 at hF
  refine lv_iinc (v := (x6 + 1 : Int32)) (lv' := [(6, .int ((x6 + 1 : Int32))), (0, .ref (g 0)), (1, .int x1), (2, .int x2), (3, .int x3), (4, .int x4), (5, .int x5)]) C.1.1 C.1.2.1 dX11_toHire_139 hl (k := 6) rfl rfl (by decide) rfl (fun ls hl => ?_)
  refine lv_goto (tgt := 26) C.1.1 C.1.2.1 dX11_toHire_142 (by decide) ?_
  exact K26 _ _ _ _ _ _ _ _ _ _ X (lv_sub hl [1, 2, 3, 4, 5, 6, 0] rfl) hF
noncomputable def fX11_toHire_b126 (N : Nat) (r26 : Int32 → Int32 → Int32 → Int32 → Int32 → Int32 → gS → Option (tR)) (x1 : Int32) (x2 : Int32) (x3 : Int32) (x6 : Int32) (S : gS) : Option (tR) := fX11_toHire_b139 N r26 x1 x2 x3 x6 (S 51 1) x6 S
theorem bX11_toHire_126 {N : Nat} {r26 : Int32 → Int32 → Int32 → Int32 → Int32 → Int32 → gS → Option (tR)} {x1 : Int32} {x2 : Int32} {x3 : Int32} {x6 : Int32} {S : gS} {H : Heap} {locs : List Loc} {ls : Array Slot} {o : tR} (C : gC p s m args meth c cX11_toHire 8 RX11 ((some .int)) D (xtys cI cB cZ cQ) xord g Am) (O : tO l g cI cB cZ cQ Am aK aV) (Tb : ∀ x ∈ c.exceptionTable.toList, False) (K26 : ∀ (x1 : Int32) (x2 : Int32) (x3 : Int32) (x4 : Int32) (x5 : Int32) (x6 : Int32) (S : gS) (H : Heap) (locs : List Loc) (ls : Array Slot), gX D (xcell g cI cB cZ cQ) xord g S s H locs → lv_has ls 8 [(0, .ref (g 0)), (1, .int x1), (2, .int x2), (3, .int x3), (4, .int x4), (5, .int x5), (6, .int x6)] → r26 x1 x2 x3 x4 x5 x6 S = some o → W p l e (rmx 7 3) s m args below meth c H locs 3 18 (gEX below args s D (xtys cI cB cZ cQ) (xcell g cI cB cZ cQ) xord g 3 false o) (F0 m 26 ls [])) (X : gX D (xcell g cI cB cZ cQ) xord g S s H locs) (hl : lv_has ls 8 [(0, .ref (g 0)), (1, .int x1), (2, .int x2), (3, .int x3), (6, .int x6)]) (hF : fX11_toHire_b126 N r26 x1 x2 x3 x6 S = some o) : W p l e (rmx 7 3) s m args below meth c H locs 3 18 (gEX below args s D (xtys cI cB cZ cQ) (xcell g cI cB cZ cQ) xord g 3 false o) (F0 m 126 ls []) := by
  unfold fX11_toHire_b126 at hF
  refine lv_iload C.1.1 C.1.2.1 dX11_toHire_126 (lv_at hl 4 rfl) ?_
  refine lv_istore (lv' := [(4, .int x6), (0, .ref (g 0)), (1, .int x1), (2, .int x2), (3, .int x3), (6, .int x6)]) C.1.1 C.1.2.1 dX11_toHire_128 hl (by decide) rfl (fun ls hl => ?_)
  refine lv_aload_n C.1.1 C.1.2.1 dX11_toHire_130 rfl (lv_at hl 1 rfl) ?_
  refine xg_X11_36 C O.1.1 X (k := 0) rfl (j := 51) rfl dX11_toHire_131 ?_
  refine xg_X11_250 C O.1.1 X (k := 51) rfl dX11_toHire_134 ?_
  refine lv_istore (lv' := [(5, .int (S 51 1)), (4, .int x6), (0, .ref (g 0)), (1, .int x1), (2, .int x2), (3, .int x3), (6, .int x6)]) C.1.1 C.1.2.1 dX11_toHire_137 hl (by decide) rfl (fun ls hl => ?_)
  exact bX11_toHire_139 C O Tb K26 X (lv_sub hl [2, 3, 4, 5, 1, 0, 6] rfl) hF
noncomputable def fX11_toHire_b114 (N : Nat) (r26 : Int32 → Int32 → Int32 → Int32 → Int32 → Int32 → gS → Option (tR)) (x1 : Int32) (x2 : Int32) (x3 : Int32) (x4 : Int32) (x5 : Int32) (x6 : Int32) (S : gS) : Option (tR) := if x5 ≤ (S 51 1) then fX11_toHire_b139 N r26 x1 x2 x3 x4 x5 x6 S else fX11_toHire_b126 N r26 x1 x2 x3 x6 S
theorem bX11_toHire_114 {N : Nat} {r26 : Int32 → Int32 → Int32 → Int32 → Int32 → Int32 → gS → Option (tR)} {x1 : Int32} {x2 : Int32} {x3 : Int32} {x4 : Int32} {x5 : Int32} {x6 : Int32} {S : gS} {H : Heap} {locs : List Loc} {ls : Array Slot} {o : tR} (C : gC p s m args meth c cX11_toHire 8 RX11 ((some .int)) D (xtys cI cB cZ cQ) xord g Am) (O : tO l g cI cB cZ cQ Am aK aV) (Tb : ∀ x ∈ c.exceptionTable.toList, False) (K26 : ∀ (x1 : Int32) (x2 : Int32) (x3 : Int32) (x4 : Int32) (x5 : Int32) (x6 : Int32) (S : gS) (H : Heap) (locs : List Loc) (ls : Array Slot), gX D (xcell g cI cB cZ cQ) xord g S s H locs → lv_has ls 8 [(0, .ref (g 0)), (1, .int x1), (2, .int x2), (3, .int x3), (4, .int x4), (5, .int x5), (6, .int x6)] → r26 x1 x2 x3 x4 x5 x6 S = some o → W p l e (rmx 7 3) s m args below meth c H locs 3 18 (gEX below args s D (xtys cI cB cZ cQ) (xcell g cI cB cZ cQ) xord g 3 false o) (F0 m 26 ls [])) (X : gX D (xcell g cI cB cZ cQ) xord g S s H locs) (hl : lv_has ls 8 [(0, .ref (g 0)), (1, .int x1), (2, .int x2), (3, .int x3), (4, .int x4), (5, .int x5), (6, .int x6)]) (hF : fX11_toHire_b114 N r26 x1 x2 x3 x4 x5 x6 S = some o) : W p l e (rmx 7 3) s m args below meth c H locs 3 18 (gEX below args s D (xtys cI cB cZ cQ) (xcell g cI cB cZ cQ) xord g 3 false o) (F0 m 114 ls []) := by
  unfold fX11_toHire_b114 at hF
  refine lv_aload_n C.1.1 C.1.2.1 dX11_toHire_114 rfl (lv_at hl 0 rfl) ?_
  refine xg_X11_36 C O.1.1 X (k := 0) rfl (j := 51) rfl dX11_toHire_115 ?_
  refine xg_X11_250 C O.1.1 X (k := 51) rfl dX11_toHire_118 ?_
  refine lv_iload C.1.1 C.1.2.1 dX11_toHire_121 (lv_at hl 5 rfl) ?_
  refine lv_icmp_ge (tgt := 139) C.1.1 C.1.2.1 dX11_toHire_123 (by decide) (fun h_z => ?_) (fun h_z => ?_)
  · rw [if_pos h_z] at hF
    exact bX11_toHire_139 C O Tb K26 X (lv_sub hl [0, 1, 2, 3, 4, 5, 6] rfl) hF
  · rw [if_neg h_z] at hF
    exact bX11_toHire_126 C O Tb K26 X (lv_sub hl [0, 1, 2, 3, 6] rfl) hF
noncomputable def fX11_toHire_b68 (N : Nat) (r26 : Int32 → Int32 → Int32 → Int32 → Int32 → Int32 → gS → Option (tR)) (x1 : Int32) (x2 : Int32) (x3 : Int32) (x4 : Int32) (x5 : Int32) (x6 : Int32) (S : gS) : Option (tR) := lt (xtw S) fun T1 => (bnd (fX10_begin N T1 21 x1 S) fun q1 => (lt (sU q1.2 51 4 x6) fun S1 => (lt (xtw S1) fun T2 => (bnd (fX10_passHours N T2 x2 S1) fun q2 => (if x4 = ((-1)) then fX11_toHire_b126 N r26 x1 x2 x3 x6 q2.2 else fX11_toHire_b114 N r26 x1 x2 x3 x4 x5 x6 q2.2)))))
theorem bX11_toHire_68 {N : Nat} {r26 : Int32 → Int32 → Int32 → Int32 → Int32 → Int32 → gS → Option (tR)} {x1 : Int32} {x2 : Int32} {x3 : Int32} {x4 : Int32} {x5 : Int32} {x6 : Int32} {S : gS} {H : Heap} {locs : List Loc} {ls : Array Slot} {o : tR} (C : gC p s m args meth c cX11_toHire 8 RX11 ((some .int)) D (xtys cI cB cZ cQ) xord g Am) (O : tO l g cI cB cZ cQ Am aK aV) (Tb : ∀ x ∈ c.exceptionTable.toList, False) (K26 : ∀ (x1 : Int32) (x2 : Int32) (x3 : Int32) (x4 : Int32) (x5 : Int32) (x6 : Int32) (S : gS) (H : Heap) (locs : List Loc) (ls : Array Slot), gX D (xcell g cI cB cZ cQ) xord g S s H locs → lv_has ls 8 [(0, .ref (g 0)), (1, .int x1), (2, .int x2), (3, .int x3), (4, .int x4), (5, .int x5), (6, .int x6)] → r26 x1 x2 x3 x4 x5 x6 S = some o → W p l e (rmx 7 3) s m args below meth c H locs 3 18 (gEX below args s D (xtys cI cB cZ cQ) (xcell g cI cB cZ cQ) xord g 3 false o) (F0 m 26 ls [])) (X : gX D (xcell g cI cB cZ cQ) xord g S s H locs) (hl : lv_has ls 8 [(0, .ref (g 0)), (1, .int x1), (2, .int x2), (3, .int x3), (4, .int x4), (5, .int x5), (6, .int x6)]) (hF : fX11_toHire_b68 N r26 x1 x2 x3 x4 x5 x6 S = some o) : W p l e (rmx 7 3) s m args below meth c H locs 3 18 (gEX below args s D (xtys cI cB cZ cQ) (xcell g cI cB cZ cQ) xord g 3 false o) (F0 m 68 ls []) := by
  unfold fX11_toHire_b68 at hF
  refine lv_aload_n C.1.1 C.1.2.1 dX11_toHire_68 rfl (lv_at hl 0 rfl) ?_
  refine xg_X11_36 C O.1.1 X (k := 0) rfl (j := 51) rfl dX11_toHire_69 ?_
  refine lv_aload_n C.1.1 C.1.2.1 dX11_toHire_72 rfl (lv_at hl 0 rfl) ?_
  obtain ⟨T1, eT1, hF⟩ := lt_some hF
  have hk_T1 := xtw_k eT1
  refine xg_X11_57 C O.1.1 X (T := T1) eT1 (k := 0) rfl dX11_toHire_73 ?_
  refine lv_aload_n C.1.1 C.1.2.1 dX11_toHire_76 rfl (lv_at hl 0 rfl) ?_
  refine xg_X11_19 C O.1.1 X (k := 0) rfl (j := 20) rfl dX11_toHire_77 ?_
  refine xg_X11_105 C O.1.1 X (k := 20) rfl (j := 21) rfl dX11_toHire_80 ?_
  refine lv_iload_n C.1.1 C.1.2.1 dX11_toHire_83 rfl (lv_at hl 1 rfl) ?_
  obtain ⟨q1, hq1, hF⟩ := bnd_some hF
  refine x_callV C X (k := 51) xv_X11_243 (rfl : xk 51 = 10) rfl rfl (by decide) (kX10_begin O.1.1 C.2.2.2.2.1 N T1 21 x1 (hk_T1 : xk T1 = 9) (rfl : xk 21 = 7) S q1 hq1) (Nat.le_of_ble_eq_true rfl) (Nat.le_of_ble_eq_true rfl) (Nat.le_of_ble_eq_true rfl) (Nat.le_of_ble_eq_true rfl) rfl hl.1 rfl (Nat.le_of_ble_eq_true rfl) dX11_toHire_84 (fun H locs X => ?_)
  refine lv_aload_n C.1.1 C.1.2.1 dX11_toHire_87 rfl (lv_at hl 0 rfl) ?_
  refine xg_X11_36 C O.1.1 X (k := 0) rfl (j := 51) rfl dX11_toHire_88 ?_
  refine lv_iload C.1.1 C.1.2.1 dX11_toHire_91 (lv_at hl 6 rfl) ?_
  obtain ⟨S1, eS1, hF⟩ := lt_some hF
  refine xp_X11_256 C O.1.1 X (k := 51) rfl eS1 dX11_toHire_93 (fun H locs X => ?_)
  refine lv_aload_n C.1.1 C.1.2.1 dX11_toHire_96 rfl (lv_at hl 0 rfl) ?_
  refine xg_X11_36 C O.1.1 X (k := 0) rfl (j := 51) rfl dX11_toHire_97 ?_
  refine lv_aload_n C.1.1 C.1.2.1 dX11_toHire_100 rfl (lv_at hl 0 rfl) ?_
  obtain ⟨T2, eT2, hF⟩ := lt_some hF
  have hk_T2 := xtw_k eT2
  refine xg_X11_57 C O.1.1 X (T := T2) eT2 (k := 0) rfl dX11_toHire_101 ?_
  refine lv_iload_n C.1.1 C.1.2.1 dX11_toHire_104 rfl (lv_at hl 2 rfl) ?_
  obtain ⟨q2, hq2, hF⟩ := bnd_some hF
  refine x_callV C X (k := 51) xv_X11_246 (rfl : xk 51 = 10) rfl rfl (by decide) (kX10_passHours O.1.1 C.2.2.2.2.1 N T2 x2 (hk_T2 : xk T2 = 9) S1 q2 hq2) (Nat.le_of_ble_eq_true rfl) (Nat.le_of_ble_eq_true rfl) (Nat.le_of_ble_eq_true rfl) (Nat.le_of_ble_eq_true rfl) rfl hl.1 rfl (Nat.le_of_ble_eq_true rfl) dX11_toHire_105 (fun H locs X => ?_)
  refine lv_iload C.1.1 C.1.2.1 dX11_toHire_108 (lv_at hl 4 rfl) ?_
  refine lv_iconst (v := (-1)) C.1.1 C.1.2.1 dX11_toHire_110 (by decide) ?_
  refine lv_icmp_eq (tgt := 126) C.1.1 C.1.2.1 dX11_toHire_111 (by decide) (fun h_z => ?_) (fun h_z => ?_)
  · rw [if_pos h_z] at hF
    exact bX11_toHire_126 C O Tb K26 X (lv_sub hl [0, 1, 2, 3, 6] rfl) hF
  · rw [if_neg h_z] at hF
    exact bX11_toHire_114 C O Tb K26 X (lv_sub hl [0, 1, 2, 3, 4, 5, 6] rfl) hF
noncomputable def fX11_toHire_b62 (N : Nat) (r26 : Int32 → Int32 → Int32 → Int32 → Int32 → Int32 → gS → Option (tR)) (x1 : Int32) (x2 : Int32) (x3 : Int32) (x4 : Int32) (x5 : Int32) (x6 : Int32) (x7 : Int32) (S : gS) : Option (tR) := if x7 = x1 then fX11_toHire_b68 N r26 x1 x2 x3 x4 x5 x6 S else fX11_toHire_b139 N r26 x1 x2 x3 x4 x5 x6 S
theorem bX11_toHire_62 {N : Nat} {r26 : Int32 → Int32 → Int32 → Int32 → Int32 → Int32 → gS → Option (tR)} {x1 : Int32} {x2 : Int32} {x3 : Int32} {x4 : Int32} {x5 : Int32} {x6 : Int32} {x7 : Int32} {S : gS} {H : Heap} {locs : List Loc} {ls : Array Slot} {o : tR} (C : gC p s m args meth c cX11_toHire 8 RX11 ((some .int)) D (xtys cI cB cZ cQ) xord g Am) (O : tO l g cI cB cZ cQ Am aK aV) (Tb : ∀ x ∈ c.exceptionTable.toList, False) (K26 : ∀ (x1 : Int32) (x2 : Int32) (x3 : Int32) (x4 : Int32) (x5 : Int32) (x6 : Int32) (S : gS) (H : Heap) (locs : List Loc) (ls : Array Slot), gX D (xcell g cI cB cZ cQ) xord g S s H locs → lv_has ls 8 [(0, .ref (g 0)), (1, .int x1), (2, .int x2), (3, .int x3), (4, .int x4), (5, .int x5), (6, .int x6)] → r26 x1 x2 x3 x4 x5 x6 S = some o → W p l e (rmx 7 3) s m args below meth c H locs 3 18 (gEX below args s D (xtys cI cB cZ cQ) (xcell g cI cB cZ cQ) xord g 3 false o) (F0 m 26 ls [])) (X : gX D (xcell g cI cB cZ cQ) xord g S s H locs) (hl : lv_has ls 8 [(0, .ref (g 0)), (1, .int x1), (2, .int x2), (3, .int x3), (4, .int x4), (5, .int x5), (6, .int x6), (7, .int x7)]) (hF : fX11_toHire_b62 N r26 x1 x2 x3 x4 x5 x6 x7 S = some o) : W p l e (rmx 7 3) s m args below meth c H locs 3 18 (gEX below args s D (xtys cI cB cZ cQ) (xcell g cI cB cZ cQ) xord g 3 false o) (F0 m 62 ls []) := by
  unfold fX11_toHire_b62 at hF
  refine lv_iload C.1.1 C.1.2.1 dX11_toHire_62 (lv_at hl 7 rfl) ?_
  refine lv_iload_n C.1.1 C.1.2.1 dX11_toHire_64 rfl (lv_at hl 1 rfl) ?_
  refine lv_icmp_ne (tgt := 139) C.1.1 C.1.2.1 dX11_toHire_65 (by decide) (fun h_z => ?_) (fun h_z => ?_)
  · rw [if_neg h_z] at hF
    exact bX11_toHire_139 C O Tb K26 X (lv_sub hl [0, 1, 2, 3, 4, 5, 6] rfl) hF
  · rw [if_pos h_z] at hF
    exact bX11_toHire_68 C O Tb K26 X (lv_sub hl [0, 1, 2, 3, 4, 5, 6] rfl) hF
noncomputable def fX11_toHire_b38 (N : Nat) (r26 : Int32 → Int32 → Int32 → Int32 → Int32 → Int32 → gS → Option (tR)) (x1 : Int32) (x2 : Int32) (x3 : Int32) (x4 : Int32) (x5 : Int32) (x6 : Int32) (S : gS) : Option (tR) := lt (xtw S) fun T1 => (bnd (fX7_holderOf N 21 T1 x6 S) fun q1 => (if q1.1 = ((-1)) then fX11_toHire_b68 N r26 x1 x2 x3 x4 x5 x6 q1.2 else fX11_toHire_b62 N r26 x1 x2 x3 x4 x5 x6 q1.1 q1.2))
theorem bX11_toHire_38 {N : Nat} {r26 : Int32 → Int32 → Int32 → Int32 → Int32 → Int32 → gS → Option (tR)} {x1 : Int32} {x2 : Int32} {x3 : Int32} {x4 : Int32} {x5 : Int32} {x6 : Int32} {S : gS} {H : Heap} {locs : List Loc} {ls : Array Slot} {o : tR} (C : gC p s m args meth c cX11_toHire 8 RX11 ((some .int)) D (xtys cI cB cZ cQ) xord g Am) (O : tO l g cI cB cZ cQ Am aK aV) (Tb : ∀ x ∈ c.exceptionTable.toList, False) (K26 : ∀ (x1 : Int32) (x2 : Int32) (x3 : Int32) (x4 : Int32) (x5 : Int32) (x6 : Int32) (S : gS) (H : Heap) (locs : List Loc) (ls : Array Slot), gX D (xcell g cI cB cZ cQ) xord g S s H locs → lv_has ls 8 [(0, .ref (g 0)), (1, .int x1), (2, .int x2), (3, .int x3), (4, .int x4), (5, .int x5), (6, .int x6)] → r26 x1 x2 x3 x4 x5 x6 S = some o → W p l e (rmx 7 3) s m args below meth c H locs 3 18 (gEX below args s D (xtys cI cB cZ cQ) (xcell g cI cB cZ cQ) xord g 3 false o) (F0 m 26 ls [])) (X : gX D (xcell g cI cB cZ cQ) xord g S s H locs) (hl : lv_has ls 8 [(0, .ref (g 0)), (1, .int x1), (2, .int x2), (3, .int x3), (4, .int x4), (5, .int x5), (6, .int x6)]) (hF : fX11_toHire_b38 N r26 x1 x2 x3 x4 x5 x6 S = some o) : W p l e (rmx 7 3) s m args below meth c H locs 3 18 (gEX below args s D (xtys cI cB cZ cQ) (xcell g cI cB cZ cQ) xord g 3 false o) (F0 m 38 ls []) := by
  unfold fX11_toHire_b38 at hF
  refine lv_aload_n C.1.1 C.1.2.1 dX11_toHire_38 rfl (lv_at hl 0 rfl) ?_
  refine xg_X11_19 C O.1.1 X (k := 0) rfl (j := 20) rfl dX11_toHire_39 ?_
  refine xg_X11_105 C O.1.1 X (k := 20) rfl (j := 21) rfl dX11_toHire_42 ?_
  refine lv_aload_n C.1.1 C.1.2.1 dX11_toHire_45 rfl (lv_at hl 0 rfl) ?_
  obtain ⟨T1, eT1, hF⟩ := lt_some hF
  have hk_T1 := xtw_k eT1
  refine xg_X11_57 C O.1.1 X (T := T1) eT1 (k := 0) rfl dX11_toHire_46 ?_
  refine lv_iload C.1.1 C.1.2.1 dX11_toHire_49 (lv_at hl 6 rfl) ?_
  obtain ⟨q1, hq1, hF⟩ := bnd_some hF
  refine x_callVi C X (k := 21) xv_X11_182 (rfl : xk 21 = 7) rfl rfl (by decide) (kX7_holderOf O.1.1 C.2.2.2.2.1 N 21 T1 x6 (rfl : xk 21 = 7) (hk_T1 : xk T1 = 9) S q1 hq1) (Nat.le_of_ble_eq_true rfl) (Nat.le_of_ble_eq_true rfl) (Nat.le_of_ble_eq_true rfl) (Nat.le_of_ble_eq_true rfl) rfl hl.1 rfl (Nat.le_of_ble_eq_true rfl) dX11_toHire_51 (fun H locs X => ?_)
  refine lv_istore (lv' := [(7, .int q1.1), (0, .ref (g 0)), (1, .int x1), (2, .int x2), (3, .int x3), (4, .int x4), (5, .int x5), (6, .int x6)]) C.1.1 C.1.2.1 dX11_toHire_54 hl (by decide) rfl (fun ls hl => ?_)
  refine lv_iload C.1.1 C.1.2.1 dX11_toHire_56 (lv_at hl 0 rfl) ?_
  refine lv_iconst (v := (-1)) C.1.1 C.1.2.1 dX11_toHire_58 (by decide) ?_
  refine lv_icmp_eq (tgt := 68) C.1.1 C.1.2.1 dX11_toHire_59 (by decide) (fun h_z => ?_) (fun h_z => ?_)
  · rw [if_pos h_z] at hF
    exact bX11_toHire_68 C O Tb K26 X (lv_sub hl [1, 2, 3, 4, 5, 6, 7] rfl) hF
  · rw [if_neg h_z] at hF
    exact bX11_toHire_62 C O Tb K26 X (lv_sub hl [1, 2, 3, 4, 5, 6, 7, 0] rfl) hF
noncomputable def fX11_toHire_b26 (N : Nat) (r26 : Int32 → Int32 → Int32 → Int32 → Int32 → Int32 → gS → Option (tR)) (x1 : Int32) (x2 : Int32) (x3 : Int32) (x4 : Int32) (x5 : Int32) (x6 : Int32) (S : gS) : Option (tR) := lt (xtw S) fun T1 => (if (S T1 0) ≤ x6 then fX11_toHire_b145 N x3 x4 x5 S else fX11_toHire_b38 N r26 x1 x2 x3 x4 x5 x6 S)
theorem bX11_toHire_26 {N : Nat} {r26 : Int32 → Int32 → Int32 → Int32 → Int32 → Int32 → gS → Option (tR)} {x1 : Int32} {x2 : Int32} {x3 : Int32} {x4 : Int32} {x5 : Int32} {x6 : Int32} {S : gS} {H : Heap} {locs : List Loc} {ls : Array Slot} {o : tR} (C : gC p s m args meth c cX11_toHire 8 RX11 ((some .int)) D (xtys cI cB cZ cQ) xord g Am) (O : tO l g cI cB cZ cQ Am aK aV) (Tb : ∀ x ∈ c.exceptionTable.toList, False) (K26 : ∀ (x1 : Int32) (x2 : Int32) (x3 : Int32) (x4 : Int32) (x5 : Int32) (x6 : Int32) (S : gS) (H : Heap) (locs : List Loc) (ls : Array Slot), gX D (xcell g cI cB cZ cQ) xord g S s H locs → lv_has ls 8 [(0, .ref (g 0)), (1, .int x1), (2, .int x2), (3, .int x3), (4, .int x4), (5, .int x5), (6, .int x6)] → r26 x1 x2 x3 x4 x5 x6 S = some o → W p l e (rmx 7 3) s m args below meth c H locs 3 18 (gEX below args s D (xtys cI cB cZ cQ) (xcell g cI cB cZ cQ) xord g 3 false o) (F0 m 26 ls [])) (X : gX D (xcell g cI cB cZ cQ) xord g S s H locs) (hl : lv_has ls 8 [(0, .ref (g 0)), (1, .int x1), (2, .int x2), (3, .int x3), (4, .int x4), (5, .int x5), (6, .int x6)]) (hF : fX11_toHire_b26 N r26 x1 x2 x3 x4 x5 x6 S = some o) : W p l e (rmx 7 3) s m args below meth c H locs 3 18 (gEX below args s D (xtys cI cB cZ cQ) (xcell g cI cB cZ cQ) xord g 3 false o) (F0 m 26 ls []) := by
  unfold fX11_toHire_b26 at hF
  refine lv_iload C.1.1 C.1.2.1 dX11_toHire_26 (lv_at hl 6 rfl) ?_
  refine lv_aload_n C.1.1 C.1.2.1 dX11_toHire_28 rfl (lv_at hl 0 rfl) ?_
  obtain ⟨T1, eT1, hF⟩ := lt_some hF
  have hk_T1 := xtw_k eT1
  refine xg_X11_57 C O.1.1 X (T := T1) eT1 (k := 0) rfl dX11_toHire_29 ?_
  refine xg_X11_108 C O.1.1 X (k := T1) hk_T1 dX11_toHire_32 ?_
  refine lv_icmp_ge (tgt := 145) C.1.1 C.1.2.1 dX11_toHire_35 (by decide) (fun h_z => ?_) (fun h_z => ?_)
  · rw [if_pos h_z] at hF
    exact bX11_toHire_145 C O Tb X (lv_sub hl [3, 4, 5] rfl) hF
  · rw [if_neg h_z] at hF
    exact bX11_toHire_38 C O Tb K26 X (lv_sub hl [0, 1, 2, 3, 4, 5, 6] rfl) hF
noncomputable def fX11_toHire_h26 (N : Nat) : Nat → Int32 → Int32 → Int32 → Int32 → Int32 → Int32 → gS → Option (tR)
  | 0, _, _, _, _, _, _, _ => none
  | n + 1, x1, x2, x3, x4, x5, x6, S => fX11_toHire_b26 N (fX11_toHire_h26 N n) x1 x2 x3 x4 x5 x6 S
theorem hX11_toHire_26 {N : Nat} {o : tR} (C : gC p s m args meth c cX11_toHire 8 RX11 ((some .int)) D (xtys cI cB cZ cQ) xord g Am) (O : tO l g cI cB cZ cQ Am aK aV) (Tb : ∀ x ∈ c.exceptionTable.toList, False) : ∀ (n : Nat) (x1 : Int32) (x2 : Int32) (x3 : Int32) (x4 : Int32) (x5 : Int32) (x6 : Int32) (S : gS) (H : Heap) (locs : List Loc) (ls : Array Slot), gX D (xcell g cI cB cZ cQ) xord g S s H locs → lv_has ls 8 [(0, .ref (g 0)), (1, .int x1), (2, .int x2), (3, .int x3), (4, .int x4), (5, .int x5), (6, .int x6)] → fX11_toHire_h26 N n x1 x2 x3 x4 x5 x6 S = some o → W p l e (rmx 7 3) s m args below meth c H locs 3 18 (gEX below args s D (xtys cI cB cZ cQ) (xcell g cI cB cZ cQ) xord g 3 false o) (F0 m 26 ls []) := by
  intro n
  induction n with
  | zero =>
    intro x1 x2 x3 x4 x5 x6 S H locs ls X hl hF
    exact absurd (show (none : Option (tR)) = some o from hF) (by simp)
  | succ n ih =>
    intro x1 x2 x3 x4 x5 x6 S H locs ls X hl hF
    have hF : fX11_toHire_b26 N (fX11_toHire_h26 N n) x1 x2 x3 x4 x5 x6 S = some o := hF
    exact bX11_toHire_26 C O Tb ih X hl hF
noncomputable def fX11_toHire_b0 (N : Nat) (x1 : Int32) (x2 : Int32) (x3 : Int32) (S : gS) : Option (tR) := bnx (fX11_needGuild N x1 S) fun q1 => (bnx (fX11_needWhat N x3 1 q1.2.2) fun q2 => (bnx (fX11_needWithin N x2 1 60 q2.2.2) fun q3 => (fX11_toHire_h26 N N x1 x2 x3 ((-1)) ((-1)) 0 q3.2.2)))
theorem bX11_toHire_0 {N : Nat} {x1 : Int32} {x2 : Int32} {x3 : Int32} {S : gS} {H : Heap} {locs : List Loc} {ls : Array Slot} {o : tR} (C : gC p s m args meth c cX11_toHire 8 RX11 ((some .int)) D (xtys cI cB cZ cQ) xord g Am) (O : tO l g cI cB cZ cQ Am aK aV) (Tb : ∀ x ∈ c.exceptionTable.toList, False) (X : gX D (xcell g cI cB cZ cQ) xord g S s H locs) (hl : lv_has ls 8 [(0, .ref (g 0)), (1, .int x1), (2, .int x2), (3, .int x3)]) (hF : fX11_toHire_b0 N x1 x2 x3 S = some o) : W p l e (rmx 7 3) s m args below meth c H locs 0 0 (gEX below args s D (xtys cI cB cZ cQ) (xcell g cI cB cZ cQ) xord g 3 false o) (F0 m 0 ls []) := by
  unfold fX11_toHire_b0 at hF
  refine lv_aload_n C.1.1 C.1.2.1 dX11_toHire_0 rfl (lv_at hl 0 rfl) ?_
  refine lv_iload_n C.1.1 C.1.2.1 dX11_toHire_1 rfl (lv_at hl 1 rfl) ?_
  rcases (bnx_some hF).symm with ⟨q1, hq1, zq1, eo⟩ | ⟨q1, hq1, zq1, hF⟩
  · subst eo
    exact t_thr (x_preT C X xv_X11_191 rfl (kX11_needGuild O C.2.2.2.2.1 N x1 S q1 hq1) (Nat.le_of_ble_eq_true rfl) (Nat.le_of_ble_eq_true rfl) (Nat.le_of_ble_eq_true rfl) (Nat.le_of_ble_eq_true rfl) rfl hl.1 rfl (Nat.le_of_ble_eq_true rfl) dX11_toHire_2) zq1 C Tb X (by decide) (by decide)
  refine t_okv (x_preT C X xv_X11_191 rfl (kX11_needGuild O C.2.2.2.2.1 N x1 S q1 hq1) (Nat.le_of_ble_eq_true rfl) (Nat.le_of_ble_eq_true rfl) (Nat.le_of_ble_eq_true rfl) (Nat.le_of_ble_eq_true rfl) rfl hl.1 rfl (Nat.le_of_ble_eq_true rfl) dX11_toHire_2) zq1 X (fun H locs X => ?_)
  refine W.widen (k := 1) (n := 6) (by decide) (by decide) ?_
  refine lv_iload_n C.1.1 C.1.2.1 dX11_toHire_5 rfl (lv_at hl 3 rfl) ?_
  refine lv_iconst (v := 1) C.1.1 C.1.2.1 dX11_toHire_6 (by decide) ?_
  rcases (bnx_some hF).symm with ⟨q2, hq2, zq2, eo⟩ | ⟨q2, hq2, zq2, hF⟩
  · subst eo
    exact t_thr (t_preS C X xv_X11_236 (kX11_needWhat O C.2.2.2.2.1 N x3 1 q1.2.2 q2 hq2) (Nat.le_of_ble_eq_true rfl) (Nat.le_of_ble_eq_true rfl) (Nat.le_of_ble_eq_true rfl) (Nat.le_of_ble_eq_true rfl) rfl hl.1 rfl (Nat.le_of_ble_eq_true rfl) dX11_toHire_7) zq2 C Tb X (by decide) (by decide)
  refine t_okv (t_preS C X xv_X11_236 (kX11_needWhat O C.2.2.2.2.1 N x3 1 q1.2.2 q2 hq2) (Nat.le_of_ble_eq_true rfl) (Nat.le_of_ble_eq_true rfl) (Nat.le_of_ble_eq_true rfl) (Nat.le_of_ble_eq_true rfl) rfl hl.1 rfl (Nat.le_of_ble_eq_true rfl) dX11_toHire_7) zq2 X (fun H locs X => ?_)
  refine W.widen (k := 2) (n := 12) (by decide) (by decide) ?_
  refine lv_iload_n C.1.1 C.1.2.1 dX11_toHire_10 rfl (lv_at hl 2 rfl) ?_
  refine lv_iconst (v := 1) C.1.1 C.1.2.1 dX11_toHire_11 (by decide) ?_
  refine lv_bipush (v := 60) C.1.1 C.1.2.1 dX11_toHire_12 (by decide) ?_
  rcases (bnx_some hF).symm with ⟨q3, hq3, zq3, eo⟩ | ⟨q3, hq3, zq3, hF⟩
  · subst eo
    exact t_thr (t_preS C X xv_X11_239 (kX11_needWithin O C.2.2.2.2.1 N x2 1 60 q2.2.2 q3 hq3) (Nat.le_of_ble_eq_true rfl) (Nat.le_of_ble_eq_true rfl) (Nat.le_of_ble_eq_true rfl) (Nat.le_of_ble_eq_true rfl) rfl hl.1 rfl (Nat.le_of_ble_eq_true rfl) dX11_toHire_14) zq3 C Tb X (by decide) (by decide)
  refine t_okv (t_preS C X xv_X11_239 (kX11_needWithin O C.2.2.2.2.1 N x2 1 60 q2.2.2 q3 hq3) (Nat.le_of_ble_eq_true rfl) (Nat.le_of_ble_eq_true rfl) (Nat.le_of_ble_eq_true rfl) (Nat.le_of_ble_eq_true rfl) rfl hl.1 rfl (Nat.le_of_ble_eq_true rfl) dX11_toHire_14) zq3 X (fun H locs X => ?_)
  refine W.widen (k := 3) (n := 18) (by decide) (by decide) ?_
  refine lv_iconst (v := (-1)) C.1.1 C.1.2.1 dX11_toHire_17 (by decide) ?_
  refine lv_istore (lv' := [(4, .int ((-1))), (0, .ref (g 0)), (1, .int x1), (2, .int x2), (3, .int x3)]) C.1.1 C.1.2.1 dX11_toHire_18 hl (by decide) rfl (fun ls hl => ?_)
  refine lv_iconst (v := (-1)) C.1.1 C.1.2.1 dX11_toHire_20 (by decide) ?_
  refine lv_istore (lv' := [(5, .int ((-1))), (4, .int ((-1))), (0, .ref (g 0)), (1, .int x1), (2, .int x2), (3, .int x3)]) C.1.1 C.1.2.1 dX11_toHire_21 hl (by decide) rfl (fun ls hl => ?_)
  refine lv_iconst (v := 0) C.1.1 C.1.2.1 dX11_toHire_23 (by decide) ?_
  refine lv_istore (lv' := [(6, .int 0), (5, .int ((-1))), (4, .int ((-1))), (0, .ref (g 0)), (1, .int x1), (2, .int x2), (3, .int x3)]) C.1.1 C.1.2.1 dX11_toHire_24 hl (by decide) rfl (fun ls hl => ?_)
  exact hX11_toHire_26 C O Tb N _ _ _ _ _ _ _ _ _ _ X (lv_sub hl [3, 4, 5, 6, 2, 1, 0] rfl) hF
noncomputable def fX11_toHire (N : Nat) (x1 : Int32) (x2 : Int32) (x3 : Int32) (S : gS) : Option (tR) := fX11_toHire_b0 N x1 x2 x3 S
theorem kX11_toHire {l : Launch} {D : va_G} {g : Nat → Nat} {cI cB cZ cQ : ClassId} {Am : (Nat → Prop) → State → Heap → Prop} {aK aV : Nat → Nat} (O : tO l g cI cB cZ cQ Am aK aV) (P : gAm Am) (N : Nat) (x1 : Int32) (x2 : Int32) (x3 : Int32) (S : gS) (o : tR) (hF : fX11_toHire N x1 x2 x3 S = some o) : gN l yX11_toHire cX11_toHire 8 ((some .int)) 7 3 D (xtys cI cB cZ cQ) (xcell g cI cB cZ cQ) xord g Am [.ref (g 0), .int x1, .int x2, .int x3] S false o :=
  gN_of P (by decide) (Nat.le_of_ble_eq_true rfl) (fun p e s m args below meth c ls C Tb X hl => bX11_toHire_0 C O Tb X (lv_sub hl [0, 1, 2, 3] rfl) hF)
-- X11.shared
noncomputable def fX11_shared_b44 (N : Nat) (t0 : Int32) (S : gS) : Option (tR) := some (0, t0, S)
theorem bX11_shared_44 {N : Nat} {t0 : Int32} {S : gS} {H : Heap} {locs : List Loc} {ls : Array Slot} {o : tR} (C : gC p s m args meth c cX11_shared 2 RX11 ((some .int)) D (xtys cI cB cZ cQ) xord g Am) (O : tO l g cI cB cZ cQ Am aK aV) (Tb : ∀ x ∈ c.exceptionTable.toList, False) (X : gX D (xcell g cI cB cZ cQ) xord g S s H locs) (hl : lv_has ls 2 []) (hF : fX11_shared_b44 N t0 S = some o) : W p l e (rmx 7 1) s m args below meth c H locs 1 6 (gEX below args s D (xtys cI cB cZ cQ) (xcell g cI cB cZ cQ) xord g 1 false o) (F0 m 44 ls [.int t0]) := by
  unfold fX11_shared_b44 at hF
  cases hF
  exact t_iret C X (by decide) (by decide) dX11_shared_44
noncomputable def fX11_shared_b37 (N : Nat) (S : gS) : Option (tR) := fX11_shared_b44 N (S 52 3) S
theorem bX11_shared_37 {N : Nat} {S : gS} {H : Heap} {locs : List Loc} {ls : Array Slot} {o : tR} (C : gC p s m args meth c cX11_shared 2 RX11 ((some .int)) D (xtys cI cB cZ cQ) xord g Am) (O : tO l g cI cB cZ cQ Am aK aV) (Tb : ∀ x ∈ c.exceptionTable.toList, False) (X : gX D (xcell g cI cB cZ cQ) xord g S s H locs) (hl : lv_has ls 2 [(0, .ref (g 0))]) (hF : fX11_shared_b37 N S = some o) : W p l e (rmx 7 1) s m args below meth c H locs 1 6 (gEX below args s D (xtys cI cB cZ cQ) (xcell g cI cB cZ cQ) xord g 1 false o) (F0 m 37 ls []) := by
  unfold fX11_shared_b37 at hF
  refine lv_aload_n C.1.1 C.1.2.1 dX11_shared_37 rfl (lv_at hl 0 rfl) ?_
  refine xg_X11_43 C O.1.1 X (k := 0) rfl (j := 52) rfl dX11_shared_38 ?_
  refine xg_X11_298 C O.1.1 X (k := 52) rfl dX11_shared_41 ?_
  exact bX11_shared_44 C O Tb X (lv_sub hl [] rfl) hF
noncomputable def fX11_shared_b27 (N : Nat) (S : gS) : Option (tR) := fX11_shared_b44 N (S 52 2) S
theorem bX11_shared_27 {N : Nat} {S : gS} {H : Heap} {locs : List Loc} {ls : Array Slot} {o : tR} (C : gC p s m args meth c cX11_shared 2 RX11 ((some .int)) D (xtys cI cB cZ cQ) xord g Am) (O : tO l g cI cB cZ cQ Am aK aV) (Tb : ∀ x ∈ c.exceptionTable.toList, False) (X : gX D (xcell g cI cB cZ cQ) xord g S s H locs) (hl : lv_has ls 2 [(0, .ref (g 0))]) (hF : fX11_shared_b27 N S = some o) : W p l e (rmx 7 1) s m args below meth c H locs 1 6 (gEX below args s D (xtys cI cB cZ cQ) (xcell g cI cB cZ cQ) xord g 1 false o) (F0 m 27 ls []) := by
  unfold fX11_shared_b27 at hF
  refine lv_aload_n C.1.1 C.1.2.1 dX11_shared_27 rfl (lv_at hl 0 rfl) ?_
  refine xg_X11_43 C O.1.1 X (k := 0) rfl (j := 52) rfl dX11_shared_28 ?_
  refine xg_X11_297 C O.1.1 X (k := 52) rfl dX11_shared_31 ?_
  refine lv_goto (tgt := 44) C.1.1 C.1.2.1 dX11_shared_34 (by decide) ?_
  exact bX11_shared_44 C O Tb X (lv_sub hl [] rfl) hF
noncomputable def fX11_shared_b0 (N : Nat) (x1 : Int32) (S : gS) : Option (tR) := bnx (fX11_needWhat N x1 1 S) fun q1 => (lt (xtw q1.2.2) fun T1 => (bnd (fX6_share N T1 21 q1.2.2) fun q2 => (if x1 = 0 then fX11_shared_b27 N q2.2 else fX11_shared_b37 N q2.2)))
theorem bX11_shared_0 {N : Nat} {x1 : Int32} {S : gS} {H : Heap} {locs : List Loc} {ls : Array Slot} {o : tR} (C : gC p s m args meth c cX11_shared 2 RX11 ((some .int)) D (xtys cI cB cZ cQ) xord g Am) (O : tO l g cI cB cZ cQ Am aK aV) (Tb : ∀ x ∈ c.exceptionTable.toList, False) (X : gX D (xcell g cI cB cZ cQ) xord g S s H locs) (hl : lv_has ls 2 [(0, .ref (g 0)), (1, .int x1)]) (hF : fX11_shared_b0 N x1 S = some o) : W p l e (rmx 7 1) s m args below meth c H locs 0 0 (gEX below args s D (xtys cI cB cZ cQ) (xcell g cI cB cZ cQ) xord g 1 false o) (F0 m 0 ls []) := by
  unfold fX11_shared_b0 at hF
  refine lv_iload_n C.1.1 C.1.2.1 dX11_shared_0 rfl (lv_at hl 1 rfl) ?_
  refine lv_iconst (v := 1) C.1.1 C.1.2.1 dX11_shared_1 (by decide) ?_
  rcases (bnx_some hF).symm with ⟨q1, hq1, zq1, eo⟩ | ⟨q1, hq1, zq1, hF⟩
  · subst eo
    exact t_thr (t_preS C X xv_X11_236 (kX11_needWhat O C.2.2.2.2.1 N x1 1 S q1 hq1) (Nat.le_of_ble_eq_true rfl) (Nat.le_of_ble_eq_true rfl) (Nat.le_of_ble_eq_true rfl) (Nat.le_of_ble_eq_true rfl) rfl hl.1 rfl (Nat.le_of_ble_eq_true rfl) dX11_shared_2) zq1 C Tb X (by decide) (by decide)
  refine t_okv (t_preS C X xv_X11_236 (kX11_needWhat O C.2.2.2.2.1 N x1 1 S q1 hq1) (Nat.le_of_ble_eq_true rfl) (Nat.le_of_ble_eq_true rfl) (Nat.le_of_ble_eq_true rfl) (Nat.le_of_ble_eq_true rfl) rfl hl.1 rfl (Nat.le_of_ble_eq_true rfl) dX11_shared_2) zq1 X (fun H locs X => ?_)
  refine W.widen (k := 1) (n := 6) (by decide) (by decide) ?_
  refine lv_aload_n C.1.1 C.1.2.1 dX11_shared_5 rfl (lv_at hl 0 rfl) ?_
  refine xg_X11_43 C O.1.1 X (k := 0) rfl (j := 52) rfl dX11_shared_6 ?_
  refine lv_aload_n C.1.1 C.1.2.1 dX11_shared_9 rfl (lv_at hl 0 rfl) ?_
  obtain ⟨T1, eT1, hF⟩ := lt_some hF
  have hk_T1 := xtw_k eT1
  refine xg_X11_57 C O.1.1 X (T := T1) eT1 (k := 0) rfl dX11_shared_10 ?_
  refine lv_aload_n C.1.1 C.1.2.1 dX11_shared_13 rfl (lv_at hl 0 rfl) ?_
  refine xg_X11_19 C O.1.1 X (k := 0) rfl (j := 20) rfl dX11_shared_14 ?_
  refine xg_X11_105 C O.1.1 X (k := 20) rfl (j := 21) rfl dX11_shared_17 ?_
  obtain ⟨q2, hq2, hF⟩ := bnd_some hF
  refine x_callV C X (k := 52) xv_X11_293 (rfl : xk 52 = 6) rfl rfl (by decide) (kX6_share O.1 C.2.2.2.2.1 N T1 21 (hk_T1 : xk T1 = 9) (rfl : xk 21 = 7) q1.2.2 q2 hq2) (Nat.le_of_ble_eq_true rfl) (Nat.le_of_ble_eq_true rfl) (Nat.le_of_ble_eq_true rfl) (Nat.le_of_ble_eq_true rfl) rfl hl.1 rfl (Nat.le_of_ble_eq_true rfl) dX11_shared_20 (fun H locs X => ?_)
  refine lv_iload_n C.1.1 C.1.2.1 dX11_shared_23 rfl (lv_at hl 1 rfl) ?_
  refine lv_if_ne (tgt := 37) C.1.1 C.1.2.1 dX11_shared_24 (by decide) (fun h_z => ?_) (fun h_z => ?_)
  · rw [if_neg h_z] at hF
    exact bX11_shared_37 C O Tb X (lv_sub hl [0] rfl) hF
  · rw [if_pos h_z] at hF
    exact bX11_shared_27 C O Tb X (lv_sub hl [0] rfl) hF
noncomputable def fX11_shared (N : Nat) (x1 : Int32) (S : gS) : Option (tR) := fX11_shared_b0 N x1 S
theorem kX11_shared {l : Launch} {D : va_G} {g : Nat → Nat} {cI cB cZ cQ : ClassId} {Am : (Nat → Prop) → State → Heap → Prop} {aK aV : Nat → Nat} (O : tO l g cI cB cZ cQ Am aK aV) (P : gAm Am) (N : Nat) (x1 : Int32) (S : gS) (o : tR) (hF : fX11_shared N x1 S = some o) : gN l yX11_shared cX11_shared 2 ((some .int)) 7 1 D (xtys cI cB cZ cQ) (xcell g cI cB cZ cQ) xord g Am [.ref (g 0), .int x1] S false o :=
  gN_of P (by decide) (Nat.le_of_ble_eq_true rfl) (fun p e s m args below meth c ls C Tb X hl => bX11_shared_0 C O Tb X (lv_sub hl [0, 1] rfl) hF)
-- X11.has
noncomputable def fX11_has_b0 (N : Nat) (x1 : Int32) (S : gS) : Option (tR) := bnx (fX11_needGuild N x1 S) fun q1 => (lt (xtw q1.2.2) fun T1 => (bnd (fX6_share N T1 21 q1.2.2) fun q2 => (chk (inb x1 6) (some (0, q2.2 61 (Int32.toNatClampNeg x1), q2.2)))))
theorem bX11_has_0 {N : Nat} {x1 : Int32} {S : gS} {H : Heap} {locs : List Loc} {ls : Array Slot} {o : tR} (C : gC p s m args meth c cX11_has 2 RX11 ((some .int)) D (xtys cI cB cZ cQ) xord g Am) (O : tO l g cI cB cZ cQ Am aK aV) (Tb : ∀ x ∈ c.exceptionTable.toList, False) (X : gX D (xcell g cI cB cZ cQ) xord g S s H locs) (hl : lv_has ls 2 [(0, .ref (g 0)), (1, .int x1)]) (hF : fX11_has_b0 N x1 S = some o) : W p l e (rmx 7 1) s m args below meth c H locs 0 0 (gEX below args s D (xtys cI cB cZ cQ) (xcell g cI cB cZ cQ) xord g 1 false o) (F0 m 0 ls []) := by
  unfold fX11_has_b0 at hF
  refine lv_aload_n C.1.1 C.1.2.1 dX11_has_0 rfl (lv_at hl 0 rfl) ?_
  refine lv_iload_n C.1.1 C.1.2.1 dX11_has_1 rfl (lv_at hl 1 rfl) ?_
  rcases (bnx_some hF).symm with ⟨q1, hq1, zq1, eo⟩ | ⟨q1, hq1, zq1, hF⟩
  · subst eo
    exact t_thr (x_preT C X xv_X11_191 rfl (kX11_needGuild O C.2.2.2.2.1 N x1 S q1 hq1) (Nat.le_of_ble_eq_true rfl) (Nat.le_of_ble_eq_true rfl) (Nat.le_of_ble_eq_true rfl) (Nat.le_of_ble_eq_true rfl) rfl hl.1 rfl (Nat.le_of_ble_eq_true rfl) dX11_has_2) zq1 C Tb X (by decide) (by decide)
  refine t_okv (x_preT C X xv_X11_191 rfl (kX11_needGuild O C.2.2.2.2.1 N x1 S q1 hq1) (Nat.le_of_ble_eq_true rfl) (Nat.le_of_ble_eq_true rfl) (Nat.le_of_ble_eq_true rfl) (Nat.le_of_ble_eq_true rfl) rfl hl.1 rfl (Nat.le_of_ble_eq_true rfl) dX11_has_2) zq1 X (fun H locs X => ?_)
  refine W.widen (k := 1) (n := 6) (by decide) (by decide) ?_
  refine lv_aload_n C.1.1 C.1.2.1 dX11_has_5 rfl (lv_at hl 0 rfl) ?_
  refine xg_X11_43 C O.1.1 X (k := 0) rfl (j := 52) rfl dX11_has_6 ?_
  refine lv_aload_n C.1.1 C.1.2.1 dX11_has_9 rfl (lv_at hl 0 rfl) ?_
  obtain ⟨T1, eT1, hF⟩ := lt_some hF
  have hk_T1 := xtw_k eT1
  refine xg_X11_57 C O.1.1 X (T := T1) eT1 (k := 0) rfl dX11_has_10 ?_
  refine lv_aload_n C.1.1 C.1.2.1 dX11_has_13 rfl (lv_at hl 0 rfl) ?_
  refine xg_X11_19 C O.1.1 X (k := 0) rfl (j := 20) rfl dX11_has_14 ?_
  refine xg_X11_105 C O.1.1 X (k := 20) rfl (j := 21) rfl dX11_has_17 ?_
  obtain ⟨q2, hq2, hF⟩ := bnd_some hF
  refine x_callV C X (k := 52) xv_X11_293 (rfl : xk 52 = 6) rfl rfl (by decide) (kX6_share O.1 C.2.2.2.2.1 N T1 21 (hk_T1 : xk T1 = 9) (rfl : xk 21 = 7) q1.2.2 q2 hq2) (Nat.le_of_ble_eq_true rfl) (Nat.le_of_ble_eq_true rfl) (Nat.le_of_ble_eq_true rfl) (Nat.le_of_ble_eq_true rfl) rfl hl.1 rfl (Nat.le_of_ble_eq_true rfl) dX11_has_20 (fun H locs X => ?_)
  refine lv_aload_n C.1.1 C.1.2.1 dX11_has_23 rfl (lv_at hl 0 rfl) ?_
  refine xg_X11_43 C O.1.1 X (k := 0) rfl (j := 52) rfl dX11_has_24 ?_
  refine xg_X11_301 C O.1.1 X (k := 52) rfl (j := 61) rfl dX11_has_27 ?_
  refine lv_iload_n C.1.1 C.1.2.1 dX11_has_30 rfl (lv_at hl 1 rfl) ?_
  obtain ⟨h_1, hF⟩ := chk_some hF
  refine x_rI C X (k := 61) rfl (n := 6) rfl  (inb_vp h_1) rfl dX11_has_31 ?_
  cases hF
  exact t_iret C X (by decide) (by decide) dX11_has_32
noncomputable def fX11_has (N : Nat) (x1 : Int32) (S : gS) : Option (tR) := fX11_has_b0 N x1 S
theorem kX11_has {l : Launch} {D : va_G} {g : Nat → Nat} {cI cB cZ cQ : ClassId} {Am : (Nat → Prop) → State → Heap → Prop} {aK aV : Nat → Nat} (O : tO l g cI cB cZ cQ Am aK aV) (P : gAm Am) (N : Nat) (x1 : Int32) (S : gS) (o : tR) (hF : fX11_has N x1 S = some o) : gN l yX11_has cX11_has 2 ((some .int)) 7 1 D (xtys cI cB cZ cQ) (xcell g cI cB cZ cQ) xord g Am [.ref (g 0), .int x1] S false o :=
  gN_of P (by decide) (Nat.le_of_ble_eq_true rfl) (fun p e s m args below meth c ls C Tb X hl => bX11_has_0 C O Tb X (lv_sub hl [0, 1] rfl) hF)
-- X11.toGive
noncomputable def fX11_toGive_b69 (N : Nat) (x1 : Int32) (x2 : Int32) (S : gS) : Option (tR) := bnd (fX11_leastByHalves N x1 x2 S) fun q1 => (some (0, q1.1, q1.2))
theorem bX11_toGive_69 {N : Nat} {x1 : Int32} {x2 : Int32} {S : gS} {H : Heap} {locs : List Loc} {ls : Array Slot} {o : tR} (C : gC p s m args meth c cX11_toGive 3 RX11 ((some .int)) D (xtys cI cB cZ cQ) xord g Am) (O : tO l g cI cB cZ cQ Am aK aV) (Tb : ∀ x ∈ c.exceptionTable.toList, False) (X : gX D (xcell g cI cB cZ cQ) xord g S s H locs) (hl : lv_has ls 3 [(0, .ref (g 0)), (1, .int x1), (2, .int x2)]) (hF : fX11_toGive_b69 N x1 x2 S = some o) : W p l e (rmx 7 2) s m args below meth c H locs 2 12 (gEX below args s D (xtys cI cB cZ cQ) (xcell g cI cB cZ cQ) xord g 2 false o) (F0 m 69 ls []) := by
  unfold fX11_toGive_b69 at hF
  refine lv_aload_n C.1.1 C.1.2.1 dX11_toGive_69 rfl (lv_at hl 0 rfl) ?_
  refine lv_iload_n C.1.1 C.1.2.1 dX11_toGive_70 rfl (lv_at hl 1 rfl) ?_
  refine lv_iload_n C.1.1 C.1.2.1 dX11_toGive_71 rfl (lv_at hl 2 rfl) ?_
  obtain ⟨q1, hq1, hF⟩ := bnd_some hF
  refine x_callVi C X (k := 0) xv_X11_319 (rfl : xk 0 = 11) rfl rfl (by decide) (kX11_leastByHalves O.1.1 C.2.2.2.2.1 N x1 x2 S q1 hq1) (Nat.le_of_ble_eq_true rfl) (Nat.le_of_ble_eq_true rfl) (Nat.le_of_ble_eq_true rfl) (Nat.le_of_ble_eq_true rfl) rfl hl.1 rfl (Nat.le_of_ble_eq_true rfl) dX11_toGive_72 (fun H locs X => ?_)
  cases hF
  exact t_iret C X (by decide) (by decide) dX11_toGive_75
noncomputable def fX11_toGive_b62 (N : Nat) (x1 : Int32) (x2 : Int32) (S : gS) : Option (tR) := bnd (fX11_leastOfAllPurses N x1 x2 S) fun q1 => (some (0, q1.1, q1.2))
theorem bX11_toGive_62 {N : Nat} {x1 : Int32} {x2 : Int32} {S : gS} {H : Heap} {locs : List Loc} {ls : Array Slot} {o : tR} (C : gC p s m args meth c cX11_toGive 3 RX11 ((some .int)) D (xtys cI cB cZ cQ) xord g Am) (O : tO l g cI cB cZ cQ Am aK aV) (Tb : ∀ x ∈ c.exceptionTable.toList, False) (X : gX D (xcell g cI cB cZ cQ) xord g S s H locs) (hl : lv_has ls 3 [(0, .ref (g 0)), (1, .int x1), (2, .int x2)]) (hF : fX11_toGive_b62 N x1 x2 S = some o) : W p l e (rmx 7 2) s m args below meth c H locs 2 12 (gEX below args s D (xtys cI cB cZ cQ) (xcell g cI cB cZ cQ) xord g 2 false o) (F0 m 62 ls []) := by
  unfold fX11_toGive_b62 at hF
  refine lv_aload_n C.1.1 C.1.2.1 dX11_toGive_62 rfl (lv_at hl 0 rfl) ?_
  refine lv_iload_n C.1.1 C.1.2.1 dX11_toGive_63 rfl (lv_at hl 1 rfl) ?_
  refine lv_iload_n C.1.1 C.1.2.1 dX11_toGive_64 rfl (lv_at hl 2 rfl) ?_
  obtain ⟨q1, hq1, hF⟩ := bnd_some hF
  refine x_callVi C X (k := 0) xv_X11_316 (rfl : xk 0 = 11) rfl rfl (by decide) (kX11_leastOfAllPurses O.1.1 C.2.2.2.2.1 N x1 x2 S q1 hq1) (Nat.le_of_ble_eq_true rfl) (Nat.le_of_ble_eq_true rfl) (Nat.le_of_ble_eq_true rfl) (Nat.le_of_ble_eq_true rfl) rfl hl.1 rfl (Nat.le_of_ble_eq_true rfl) dX11_toGive_65 (fun H locs X => ?_)
  cases hF
  exact t_iret C X (by decide) (by decide) dX11_toGive_68
noncomputable def fX11_toGive_b46 (N : Nat) (x1 : Int32) (x2 : Int32) (S : gS) : Option (tR) := lt (xtw S) fun T1 => (bnd (fX4_minds N (T1 + 13) 10001 S) fun q1 => (if q1.1 = 0 then fX11_toGive_b69 N x1 x2 q1.2 else fX11_toGive_b62 N x1 x2 q1.2))
theorem bX11_toGive_46 {N : Nat} {x1 : Int32} {x2 : Int32} {S : gS} {H : Heap} {locs : List Loc} {ls : Array Slot} {o : tR} (C : gC p s m args meth c cX11_toGive 3 RX11 ((some .int)) D (xtys cI cB cZ cQ) xord g Am) (O : tO l g cI cB cZ cQ Am aK aV) (Tb : ∀ x ∈ c.exceptionTable.toList, False) (X : gX D (xcell g cI cB cZ cQ) xord g S s H locs) (hl : lv_has ls 3 [(0, .ref (g 0)), (1, .int x1), (2, .int x2)]) (hF : fX11_toGive_b46 N x1 x2 S = some o) : W p l e (rmx 7 2) s m args below meth c H locs 2 12 (gEX below args s D (xtys cI cB cZ cQ) (xcell g cI cB cZ cQ) xord g 2 false o) (F0 m 46 ls []) := by
  unfold fX11_toGive_b46 at hF
  refine lv_aload_n C.1.1 C.1.2.1 dX11_toGive_46 rfl (lv_at hl 0 rfl) ?_
  obtain ⟨T1, eT1, hF⟩ := lt_some hF
  have hk_T1 := xtw_k eT1
  refine xg_X11_57 C O.1.1 X (T := T1) eT1 (k := 0) rfl dX11_toGive_47 ?_
  refine xg_X11_313 C O.1.1 X (k := T1) hk_T1 (j := T1 + 13) rfl dX11_toGive_50 ?_
  refine lv_sipush (v := 10001) C.1.1 C.1.2.1 dX11_toGive_53 (by decide) ?_
  obtain ⟨q1, hq1, hF⟩ := bnd_some hF
  refine x_callVi C X (k := T1 + 13) xv_X11_308 (xs_9_14 hk_T1) rfl rfl (by decide) (kX4_minds O.1.1 C.2.2.2.2.1 N (T1 + 13) 10001 ((xs_9_14 hk_T1) : xk (T1 + 13) = 4) S q1 hq1) (Nat.le_of_ble_eq_true rfl) (Nat.le_of_ble_eq_true rfl) (Nat.le_of_ble_eq_true rfl) (Nat.le_of_ble_eq_true rfl) rfl hl.1 rfl (Nat.le_of_ble_eq_true rfl) dX11_toGive_56 (fun H locs X => ?_)
  refine lv_if_eq (tgt := 69) C.1.1 C.1.2.1 dX11_toGive_59 (by decide) (fun h_z => ?_) (fun h_z => ?_)
  · rw [if_pos h_z] at hF
    exact bX11_toGive_69 C O Tb X (lv_sub hl [0, 1, 2] rfl) hF
  · rw [if_neg h_z] at hF
    exact bX11_toGive_62 C O Tb X (lv_sub hl [0, 1, 2] rfl) hF
noncomputable def fX11_toGive_b30 (N : Nat) (x1 : Int32) (x2 : Int32) (S : gS) : Option (tR) := lt (xtw S) fun T1 => (bnd (fX4_minds N (T1 + 10) 10001 S) fun q1 => (if q1.1 = 0 then fX11_toGive_b46 N x1 x2 q1.2 else fX11_toGive_b62 N x1 x2 q1.2))
theorem bX11_toGive_30 {N : Nat} {x1 : Int32} {x2 : Int32} {S : gS} {H : Heap} {locs : List Loc} {ls : Array Slot} {o : tR} (C : gC p s m args meth c cX11_toGive 3 RX11 ((some .int)) D (xtys cI cB cZ cQ) xord g Am) (O : tO l g cI cB cZ cQ Am aK aV) (Tb : ∀ x ∈ c.exceptionTable.toList, False) (X : gX D (xcell g cI cB cZ cQ) xord g S s H locs) (hl : lv_has ls 3 [(0, .ref (g 0)), (1, .int x1), (2, .int x2)]) (hF : fX11_toGive_b30 N x1 x2 S = some o) : W p l e (rmx 7 2) s m args below meth c H locs 2 12 (gEX below args s D (xtys cI cB cZ cQ) (xcell g cI cB cZ cQ) xord g 2 false o) (F0 m 30 ls []) := by
  unfold fX11_toGive_b30 at hF
  refine lv_aload_n C.1.1 C.1.2.1 dX11_toGive_30 rfl (lv_at hl 0 rfl) ?_
  obtain ⟨T1, eT1, hF⟩ := lt_some hF
  have hk_T1 := xtw_k eT1
  refine xg_X11_57 C O.1.1 X (T := T1) eT1 (k := 0) rfl dX11_toGive_31 ?_
  refine xg_X11_304 C O.1.1 X (k := T1) hk_T1 (j := T1 + 10) rfl dX11_toGive_34 ?_
  refine lv_sipush (v := 10001) C.1.1 C.1.2.1 dX11_toGive_37 (by decide) ?_
  obtain ⟨q1, hq1, hF⟩ := bnd_some hF
  refine x_callVi C X (k := T1 + 10) xv_X11_308 (xs_9_13 hk_T1) rfl rfl (by decide) (kX4_minds O.1.1 C.2.2.2.2.1 N (T1 + 10) 10001 ((xs_9_13 hk_T1) : xk (T1 + 10) = 4) S q1 hq1) (Nat.le_of_ble_eq_true rfl) (Nat.le_of_ble_eq_true rfl) (Nat.le_of_ble_eq_true rfl) (Nat.le_of_ble_eq_true rfl) rfl hl.1 rfl (Nat.le_of_ble_eq_true rfl) dX11_toGive_40 (fun H locs X => ?_)
  refine lv_if_ne (tgt := 62) C.1.1 C.1.2.1 dX11_toGive_43 (by decide) (fun h_z => ?_) (fun h_z => ?_)
  · rw [if_neg h_z] at hF
    exact bX11_toGive_62 C O Tb X (lv_sub hl [0, 1, 2] rfl) hF
  · rw [if_pos h_z] at hF
    exact bX11_toGive_46 C O Tb X (lv_sub hl [0, 1, 2] rfl) hF
noncomputable def fX11_toGive_b28 (N : Nat) (S : gS) : Option (tR) := some (0, (-1), S)
theorem bX11_toGive_28 {N : Nat} {S : gS} {H : Heap} {locs : List Loc} {ls : Array Slot} {o : tR} (C : gC p s m args meth c cX11_toGive 3 RX11 ((some .int)) D (xtys cI cB cZ cQ) xord g Am) (O : tO l g cI cB cZ cQ Am aK aV) (Tb : ∀ x ∈ c.exceptionTable.toList, False) (X : gX D (xcell g cI cB cZ cQ) xord g S s H locs) (hl : lv_has ls 3 []) (hF : fX11_toGive_b28 N S = some o) : W p l e (rmx 7 2) s m args below meth c H locs 2 12 (gEX below args s D (xtys cI cB cZ cQ) (xcell g cI cB cZ cQ) xord g 2 false o) (F0 m 28 ls []) := by
  unfold fX11_toGive_b28 at hF
  refine lv_iconst (v := (-1)) C.1.1 C.1.2.1 dX11_toGive_28 (by decide) ?_
  cases hF
  exact t_iret (x := (-1)) C X (by decide) (by decide) dX11_toGive_29
noncomputable def fX11_toGive_b0 (N : Nat) (x1 : Int32) (x2 : Int32) (S : gS) : Option (tR) := bnx (fX11_needGuild N x1 S) fun q1 => (bnx (fX11_needWithin N x2 1 60 q1.2.2) fun q2 => (chk (inb x1 6) (if (q2.2.2 25 (Int32.toNatClampNeg x1)) = ((-1)) then fX11_toGive_b28 N q2.2.2 else fX11_toGive_b30 N x1 x2 q2.2.2)))
theorem bX11_toGive_0 {N : Nat} {x1 : Int32} {x2 : Int32} {S : gS} {H : Heap} {locs : List Loc} {ls : Array Slot} {o : tR} (C : gC p s m args meth c cX11_toGive 3 RX11 ((some .int)) D (xtys cI cB cZ cQ) xord g Am) (O : tO l g cI cB cZ cQ Am aK aV) (Tb : ∀ x ∈ c.exceptionTable.toList, False) (X : gX D (xcell g cI cB cZ cQ) xord g S s H locs) (hl : lv_has ls 3 [(0, .ref (g 0)), (1, .int x1), (2, .int x2)]) (hF : fX11_toGive_b0 N x1 x2 S = some o) : W p l e (rmx 7 2) s m args below meth c H locs 0 0 (gEX below args s D (xtys cI cB cZ cQ) (xcell g cI cB cZ cQ) xord g 2 false o) (F0 m 0 ls []) := by
  unfold fX11_toGive_b0 at hF
  refine lv_aload_n C.1.1 C.1.2.1 dX11_toGive_0 rfl (lv_at hl 0 rfl) ?_
  refine lv_iload_n C.1.1 C.1.2.1 dX11_toGive_1 rfl (lv_at hl 1 rfl) ?_
  rcases (bnx_some hF).symm with ⟨q1, hq1, zq1, eo⟩ | ⟨q1, hq1, zq1, hF⟩
  · subst eo
    exact t_thr (x_preT C X xv_X11_191 rfl (kX11_needGuild O C.2.2.2.2.1 N x1 S q1 hq1) (Nat.le_of_ble_eq_true rfl) (Nat.le_of_ble_eq_true rfl) (Nat.le_of_ble_eq_true rfl) (Nat.le_of_ble_eq_true rfl) rfl hl.1 rfl (Nat.le_of_ble_eq_true rfl) dX11_toGive_2) zq1 C Tb X (by decide) (by decide)
  refine t_okv (x_preT C X xv_X11_191 rfl (kX11_needGuild O C.2.2.2.2.1 N x1 S q1 hq1) (Nat.le_of_ble_eq_true rfl) (Nat.le_of_ble_eq_true rfl) (Nat.le_of_ble_eq_true rfl) (Nat.le_of_ble_eq_true rfl) rfl hl.1 rfl (Nat.le_of_ble_eq_true rfl) dX11_toGive_2) zq1 X (fun H locs X => ?_)
  refine W.widen (k := 1) (n := 6) (by decide) (by decide) ?_
  refine lv_iload_n C.1.1 C.1.2.1 dX11_toGive_5 rfl (lv_at hl 2 rfl) ?_
  refine lv_iconst (v := 1) C.1.1 C.1.2.1 dX11_toGive_6 (by decide) ?_
  refine lv_bipush (v := 60) C.1.1 C.1.2.1 dX11_toGive_7 (by decide) ?_
  rcases (bnx_some hF).symm with ⟨q2, hq2, zq2, eo⟩ | ⟨q2, hq2, zq2, hF⟩
  · subst eo
    exact t_thr (t_preS C X xv_X11_239 (kX11_needWithin O C.2.2.2.2.1 N x2 1 60 q1.2.2 q2 hq2) (Nat.le_of_ble_eq_true rfl) (Nat.le_of_ble_eq_true rfl) (Nat.le_of_ble_eq_true rfl) (Nat.le_of_ble_eq_true rfl) rfl hl.1 rfl (Nat.le_of_ble_eq_true rfl) dX11_toGive_9) zq2 C Tb X (by decide) (by decide)
  refine t_okv (t_preS C X xv_X11_239 (kX11_needWithin O C.2.2.2.2.1 N x2 1 60 q1.2.2 q2 hq2) (Nat.le_of_ble_eq_true rfl) (Nat.le_of_ble_eq_true rfl) (Nat.le_of_ble_eq_true rfl) (Nat.le_of_ble_eq_true rfl) rfl hl.1 rfl (Nat.le_of_ble_eq_true rfl) dX11_toGive_9) zq2 X (fun H locs X => ?_)
  refine W.widen (k := 2) (n := 12) (by decide) (by decide) ?_
  refine lv_aload_n C.1.1 C.1.2.1 dX11_toGive_12 rfl (lv_at hl 0 rfl) ?_
  refine xg_X11_19 C O.1.1 X (k := 0) rfl (j := 20) rfl dX11_toGive_13 ?_
  refine xg_X11_105 C O.1.1 X (k := 20) rfl (j := 21) rfl dX11_toGive_16 ?_
  refine xg_X11_206 C O.1.1 X (k := 21) rfl (j := 25) rfl dX11_toGive_19 ?_
  refine lv_iload_n C.1.1 C.1.2.1 dX11_toGive_22 rfl (lv_at hl 1 rfl) ?_
  obtain ⟨h_1, hF⟩ := chk_some hF
  refine x_rI C X (k := 25) rfl (n := 6) rfl  (inb_vp h_1) rfl dX11_toGive_23 ?_
  refine lv_iconst (v := (-1)) C.1.1 C.1.2.1 dX11_toGive_24 (by decide) ?_
  refine lv_icmp_ne (tgt := 30) C.1.1 C.1.2.1 dX11_toGive_25 (by decide) (fun h_z => ?_) (fun h_z => ?_)
  · rw [if_neg h_z] at hF
    exact bX11_toGive_30 C O Tb X (lv_sub hl [0, 1, 2] rfl) hF
  · rw [if_pos h_z] at hF
    exact bX11_toGive_28 C O Tb X (lv_sub hl [] rfl) hF
noncomputable def fX11_toGive (N : Nat) (x1 : Int32) (x2 : Int32) (S : gS) : Option (tR) := fX11_toGive_b0 N x1 x2 S
theorem kX11_toGive {l : Launch} {D : va_G} {g : Nat → Nat} {cI cB cZ cQ : ClassId} {Am : (Nat → Prop) → State → Heap → Prop} {aK aV : Nat → Nat} (O : tO l g cI cB cZ cQ Am aK aV) (P : gAm Am) (N : Nat) (x1 : Int32) (x2 : Int32) (S : gS) (o : tR) (hF : fX11_toGive N x1 x2 S = some o) : gN l yX11_toGive cX11_toGive 3 ((some .int)) 7 2 D (xtys cI cB cZ cQ) (xcell g cI cB cZ cQ) xord g Am [.ref (g 0), .int x1, .int x2] S false o :=
  gN_of P (by decide) (Nat.le_of_ble_eq_true rfl) (fun p e s m args below meth c ls C Tb X hl => bX11_toGive_0 C O Tb X (lv_sub hl [0, 1, 2] rfl) hF)
-- X11.confessing
noncomputable def fX11_confessing_b31 (N : Nat) (x1 : Int32) (x2 : Int32) (S : gS) : Option (tR) := lt (xtw S) fun T1 => (bnd (fX10_begin N T1 21 x1 S) fun q1 => (lt (xtw q1.2) fun T2 => (bnd (fX10_passHours N T2 x2 q1.2) fun q2 => (lt (xtw q2.2) fun T3 => (bnd (fX10_begin N T3 21 x1 q2.2) fun q3 => (bnd (fX10_repent N q3.2) fun q4 => (lt (xtw q4.2) fun T4 => (bnd (fX10_passHours N T4 x2 q4.2) fun q5 => (some (0, ((q2.2 51 1) - (q5.2 51 1) : Int32), q5.2))))))))))
theorem bX11_confessing_31 {N : Nat} {x1 : Int32} {x2 : Int32} {S : gS} {H : Heap} {locs : List Loc} {ls : Array Slot} {o : tR} (C : gC p s m args meth c cX11_confessing 4 RX11 ((some .int)) D (xtys cI cB cZ cQ) xord g Am) (O : tO l g cI cB cZ cQ Am aK aV) (Tb : ∀ x ∈ c.exceptionTable.toList, False) (X : gX D (xcell g cI cB cZ cQ) xord g S s H locs) (hl : lv_has ls 4 [(0, .ref (g 0)), (1, .int x1), (2, .int x2)]) (hF : fX11_confessing_b31 N x1 x2 S = some o) : W p l e (rmx 7 2) s m args below meth c H locs 2 12 (gEX below args s D (xtys cI cB cZ cQ) (xcell g cI cB cZ cQ) xord g 2 false o) (F0 m 31 ls []) := by
  unfold fX11_confessing_b31 at hF
  refine lv_aload_n C.1.1 C.1.2.1 dX11_confessing_31 rfl (lv_at hl 0 rfl) ?_
  refine xg_X11_36 C O.1.1 X (k := 0) rfl (j := 51) rfl dX11_confessing_32 ?_
  refine lv_aload_n C.1.1 C.1.2.1 dX11_confessing_35 rfl (lv_at hl 0 rfl) ?_
  obtain ⟨T1, eT1, hF⟩ := lt_some hF
  have hk_T1 := xtw_k eT1
  refine xg_X11_57 C O.1.1 X (T := T1) eT1 (k := 0) rfl dX11_confessing_36 ?_
  refine lv_aload_n C.1.1 C.1.2.1 dX11_confessing_39 rfl (lv_at hl 0 rfl) ?_
  refine xg_X11_19 C O.1.1 X (k := 0) rfl (j := 20) rfl dX11_confessing_40 ?_
  refine xg_X11_105 C O.1.1 X (k := 20) rfl (j := 21) rfl dX11_confessing_43 ?_
  refine lv_iload_n C.1.1 C.1.2.1 dX11_confessing_46 rfl (lv_at hl 1 rfl) ?_
  obtain ⟨q1, hq1, hF⟩ := bnd_some hF
  refine x_callV C X (k := 51) xv_X11_243 (rfl : xk 51 = 10) rfl rfl (by decide) (kX10_begin O.1.1 C.2.2.2.2.1 N T1 21 x1 (hk_T1 : xk T1 = 9) (rfl : xk 21 = 7) S q1 hq1) (Nat.le_of_ble_eq_true rfl) (Nat.le_of_ble_eq_true rfl) (Nat.le_of_ble_eq_true rfl) (Nat.le_of_ble_eq_true rfl) rfl hl.1 rfl (Nat.le_of_ble_eq_true rfl) dX11_confessing_47 (fun H locs X => ?_)
  refine lv_aload_n C.1.1 C.1.2.1 dX11_confessing_50 rfl (lv_at hl 0 rfl) ?_
  refine xg_X11_36 C O.1.1 X (k := 0) rfl (j := 51) rfl dX11_confessing_51 ?_
  refine lv_aload_n C.1.1 C.1.2.1 dX11_confessing_54 rfl (lv_at hl 0 rfl) ?_
  obtain ⟨T2, eT2, hF⟩ := lt_some hF
  have hk_T2 := xtw_k eT2
  refine xg_X11_57 C O.1.1 X (T := T2) eT2 (k := 0) rfl dX11_confessing_55 ?_
  refine lv_iload_n C.1.1 C.1.2.1 dX11_confessing_58 rfl (lv_at hl 2 rfl) ?_
  obtain ⟨q2, hq2, hF⟩ := bnd_some hF
  refine x_callV C X (k := 51) xv_X11_246 (rfl : xk 51 = 10) rfl rfl (by decide) (kX10_passHours O.1.1 C.2.2.2.2.1 N T2 x2 (hk_T2 : xk T2 = 9) q1.2 q2 hq2) (Nat.le_of_ble_eq_true rfl) (Nat.le_of_ble_eq_true rfl) (Nat.le_of_ble_eq_true rfl) (Nat.le_of_ble_eq_true rfl) rfl hl.1 rfl (Nat.le_of_ble_eq_true rfl) dX11_confessing_59 (fun H locs X => ?_)
  refine lv_aload_n C.1.1 C.1.2.1 dX11_confessing_62 rfl (lv_at hl 0 rfl) ?_
  refine xg_X11_36 C O.1.1 X (k := 0) rfl (j := 51) rfl dX11_confessing_63 ?_
  refine xg_X11_250 C O.1.1 X (k := 51) rfl dX11_confessing_66 ?_
  refine lv_istore_n (lv' := [(3, .int (q2.2 51 1)), (0, .ref (g 0)), (1, .int x1), (2, .int x2)]) C.1.1 C.1.2.1 dX11_confessing_69 rfl hl (by decide) rfl (fun ls hl => ?_)
  refine lv_aload_n C.1.1 C.1.2.1 dX11_confessing_70 rfl (lv_at hl 1 rfl) ?_
  refine xg_X11_36 C O.1.1 X (k := 0) rfl (j := 51) rfl dX11_confessing_71 ?_
  refine lv_aload_n C.1.1 C.1.2.1 dX11_confessing_74 rfl (lv_at hl 1 rfl) ?_
  obtain ⟨T3, eT3, hF⟩ := lt_some hF
  have hk_T3 := xtw_k eT3
  refine xg_X11_57 C O.1.1 X (T := T3) eT3 (k := 0) rfl dX11_confessing_75 ?_
  refine lv_aload_n C.1.1 C.1.2.1 dX11_confessing_78 rfl (lv_at hl 1 rfl) ?_
  refine xg_X11_19 C O.1.1 X (k := 0) rfl (j := 20) rfl dX11_confessing_79 ?_
  refine xg_X11_105 C O.1.1 X (k := 20) rfl (j := 21) rfl dX11_confessing_82 ?_
  refine lv_iload_n C.1.1 C.1.2.1 dX11_confessing_85 rfl (lv_at hl 2 rfl) ?_
  obtain ⟨q3, hq3, hF⟩ := bnd_some hF
  refine x_callV C X (k := 51) xv_X11_243 (rfl : xk 51 = 10) rfl rfl (by decide) (kX10_begin O.1.1 C.2.2.2.2.1 N T3 21 x1 (hk_T3 : xk T3 = 9) (rfl : xk 21 = 7) q2.2 q3 hq3) (Nat.le_of_ble_eq_true rfl) (Nat.le_of_ble_eq_true rfl) (Nat.le_of_ble_eq_true rfl) (Nat.le_of_ble_eq_true rfl) rfl hl.1 rfl (Nat.le_of_ble_eq_true rfl) dX11_confessing_86 (fun H locs X => ?_)
  refine lv_aload_n C.1.1 C.1.2.1 dX11_confessing_89 rfl (lv_at hl 1 rfl) ?_
  refine xg_X11_36 C O.1.1 X (k := 0) rfl (j := 51) rfl dX11_confessing_90 ?_
  obtain ⟨q4, hq4, hF⟩ := bnd_some hF
  refine x_callV C X (k := 51) xv_X11_322 (rfl : xk 51 = 10) rfl rfl (by decide) (kX10_repent O.1.1 C.2.2.2.2.1 N q3.2 q4 hq4) (Nat.le_of_ble_eq_true rfl) (Nat.le_of_ble_eq_true rfl) (Nat.le_of_ble_eq_true rfl) (Nat.le_of_ble_eq_true rfl) rfl hl.1 rfl (Nat.le_of_ble_eq_true rfl) dX11_confessing_93 (fun H locs X => ?_)
  refine lv_aload_n C.1.1 C.1.2.1 dX11_confessing_96 rfl (lv_at hl 1 rfl) ?_
  refine xg_X11_36 C O.1.1 X (k := 0) rfl (j := 51) rfl dX11_confessing_97 ?_
  refine lv_aload_n C.1.1 C.1.2.1 dX11_confessing_100 rfl (lv_at hl 1 rfl) ?_
  obtain ⟨T4, eT4, hF⟩ := lt_some hF
  have hk_T4 := xtw_k eT4
  refine xg_X11_57 C O.1.1 X (T := T4) eT4 (k := 0) rfl dX11_confessing_101 ?_
  refine lv_iload_n C.1.1 C.1.2.1 dX11_confessing_104 rfl (lv_at hl 3 rfl) ?_
  obtain ⟨q5, hq5, hF⟩ := bnd_some hF
  refine x_callV C X (k := 51) xv_X11_246 (rfl : xk 51 = 10) rfl rfl (by decide) (kX10_passHours O.1.1 C.2.2.2.2.1 N T4 x2 (hk_T4 : xk T4 = 9) q4.2 q5 hq5) (Nat.le_of_ble_eq_true rfl) (Nat.le_of_ble_eq_true rfl) (Nat.le_of_ble_eq_true rfl) (Nat.le_of_ble_eq_true rfl) rfl hl.1 rfl (Nat.le_of_ble_eq_true rfl) dX11_confessing_105 (fun H locs X => ?_)
  refine lv_iload_n C.1.1 C.1.2.1 dX11_confessing_108 rfl (lv_at hl 0 rfl) ?_
  refine lv_aload_n C.1.1 C.1.2.1 dX11_confessing_109 rfl (lv_at hl 1 rfl) ?_
  refine xg_X11_36 C O.1.1 X (k := 0) rfl (j := 51) rfl dX11_confessing_110 ?_
  refine xg_X11_250 C O.1.1 X (k := 51) rfl dX11_confessing_113 ?_
  refine lv_isub C.1.1 C.1.2.1 dX11_confessing_116 ?_
  cases hF
  exact t_iret C X (by decide) (by decide) dX11_confessing_117
noncomputable def fX11_confessing_b29 (N : Nat) (S : gS) : Option (tR) := some (0, 0, S)
theorem bX11_confessing_29 {N : Nat} {S : gS} {H : Heap} {locs : List Loc} {ls : Array Slot} {o : tR} (C : gC p s m args meth c cX11_confessing 4 RX11 ((some .int)) D (xtys cI cB cZ cQ) xord g Am) (O : tO l g cI cB cZ cQ Am aK aV) (Tb : ∀ x ∈ c.exceptionTable.toList, False) (X : gX D (xcell g cI cB cZ cQ) xord g S s H locs) (hl : lv_has ls 4 []) (hF : fX11_confessing_b29 N S = some o) : W p l e (rmx 7 2) s m args below meth c H locs 2 12 (gEX below args s D (xtys cI cB cZ cQ) (xcell g cI cB cZ cQ) xord g 2 false o) (F0 m 29 ls []) := by
  unfold fX11_confessing_b29 at hF
  refine lv_iconst (v := 0) C.1.1 C.1.2.1 dX11_confessing_29 (by decide) ?_
  cases hF
  exact t_iret (x := 0) C X (by decide) (by decide) dX11_confessing_30
noncomputable def fX11_confessing_b0 (N : Nat) (x1 : Int32) (x2 : Int32) (S : gS) : Option (tR) := bnx (fX11_needGuild N x1 S) fun q1 => (bnx (fX11_needWithin N x2 0 60 q1.2.2) fun q2 => (chk (inb x1 6) (if 50 ≤ (q2.2.2 23 (Int32.toNatClampNeg x1)) then fX11_confessing_b31 N x1 x2 q2.2.2 else fX11_confessing_b29 N q2.2.2)))
theorem bX11_confessing_0 {N : Nat} {x1 : Int32} {x2 : Int32} {S : gS} {H : Heap} {locs : List Loc} {ls : Array Slot} {o : tR} (C : gC p s m args meth c cX11_confessing 4 RX11 ((some .int)) D (xtys cI cB cZ cQ) xord g Am) (O : tO l g cI cB cZ cQ Am aK aV) (Tb : ∀ x ∈ c.exceptionTable.toList, False) (X : gX D (xcell g cI cB cZ cQ) xord g S s H locs) (hl : lv_has ls 4 [(0, .ref (g 0)), (1, .int x1), (2, .int x2)]) (hF : fX11_confessing_b0 N x1 x2 S = some o) : W p l e (rmx 7 2) s m args below meth c H locs 0 0 (gEX below args s D (xtys cI cB cZ cQ) (xcell g cI cB cZ cQ) xord g 2 false o) (F0 m 0 ls []) := by
  unfold fX11_confessing_b0 at hF
  refine lv_aload_n C.1.1 C.1.2.1 dX11_confessing_0 rfl (lv_at hl 0 rfl) ?_
  refine lv_iload_n C.1.1 C.1.2.1 dX11_confessing_1 rfl (lv_at hl 1 rfl) ?_
  rcases (bnx_some hF).symm with ⟨q1, hq1, zq1, eo⟩ | ⟨q1, hq1, zq1, hF⟩
  · subst eo
    exact t_thr (x_preT C X xv_X11_191 rfl (kX11_needGuild O C.2.2.2.2.1 N x1 S q1 hq1) (Nat.le_of_ble_eq_true rfl) (Nat.le_of_ble_eq_true rfl) (Nat.le_of_ble_eq_true rfl) (Nat.le_of_ble_eq_true rfl) rfl hl.1 rfl (Nat.le_of_ble_eq_true rfl) dX11_confessing_2) zq1 C Tb X (by decide) (by decide)
  refine t_okv (x_preT C X xv_X11_191 rfl (kX11_needGuild O C.2.2.2.2.1 N x1 S q1 hq1) (Nat.le_of_ble_eq_true rfl) (Nat.le_of_ble_eq_true rfl) (Nat.le_of_ble_eq_true rfl) (Nat.le_of_ble_eq_true rfl) rfl hl.1 rfl (Nat.le_of_ble_eq_true rfl) dX11_confessing_2) zq1 X (fun H locs X => ?_)
  refine W.widen (k := 1) (n := 6) (by decide) (by decide) ?_
  refine lv_iload_n C.1.1 C.1.2.1 dX11_confessing_5 rfl (lv_at hl 2 rfl) ?_
  refine lv_iconst (v := 0) C.1.1 C.1.2.1 dX11_confessing_6 (by decide) ?_
  refine lv_bipush (v := 60) C.1.1 C.1.2.1 dX11_confessing_7 (by decide) ?_
  rcases (bnx_some hF).symm with ⟨q2, hq2, zq2, eo⟩ | ⟨q2, hq2, zq2, hF⟩
  · subst eo
    exact t_thr (t_preS C X xv_X11_239 (kX11_needWithin O C.2.2.2.2.1 N x2 0 60 q1.2.2 q2 hq2) (Nat.le_of_ble_eq_true rfl) (Nat.le_of_ble_eq_true rfl) (Nat.le_of_ble_eq_true rfl) (Nat.le_of_ble_eq_true rfl) rfl hl.1 rfl (Nat.le_of_ble_eq_true rfl) dX11_confessing_9) zq2 C Tb X (by decide) (by decide)
  refine t_okv (t_preS C X xv_X11_239 (kX11_needWithin O C.2.2.2.2.1 N x2 0 60 q1.2.2 q2 hq2) (Nat.le_of_ble_eq_true rfl) (Nat.le_of_ble_eq_true rfl) (Nat.le_of_ble_eq_true rfl) (Nat.le_of_ble_eq_true rfl) rfl hl.1 rfl (Nat.le_of_ble_eq_true rfl) dX11_confessing_9) zq2 X (fun H locs X => ?_)
  refine W.widen (k := 2) (n := 12) (by decide) (by decide) ?_
  refine lv_aload_n C.1.1 C.1.2.1 dX11_confessing_12 rfl (lv_at hl 0 rfl) ?_
  refine xg_X11_19 C O.1.1 X (k := 0) rfl (j := 20) rfl dX11_confessing_13 ?_
  refine xg_X11_105 C O.1.1 X (k := 20) rfl (j := 21) rfl dX11_confessing_16 ?_
  refine xg_X11_200 C O.1.1 X (k := 21) rfl (j := 23) rfl dX11_confessing_19 ?_
  refine lv_iload_n C.1.1 C.1.2.1 dX11_confessing_22 rfl (lv_at hl 1 rfl) ?_
  obtain ⟨h_1, hF⟩ := chk_some hF
  refine x_rI C X (k := 23) rfl (n := 6) rfl  (inb_vp h_1) rfl dX11_confessing_23 ?_
  refine lv_bipush (v := 50) C.1.1 C.1.2.1 dX11_confessing_24 (by decide) ?_
  refine lv_icmp_ge (tgt := 31) C.1.1 C.1.2.1 dX11_confessing_26 (by decide) (fun h_z => ?_) (fun h_z => ?_)
  · rw [if_pos h_z] at hF
    exact bX11_confessing_31 C O Tb X (lv_sub hl [0, 1, 2] rfl) hF
  · rw [if_neg h_z] at hF
    exact bX11_confessing_29 C O Tb X (lv_sub hl [] rfl) hF
noncomputable def fX11_confessing (N : Nat) (x1 : Int32) (x2 : Int32) (S : gS) : Option (tR) := fX11_confessing_b0 N x1 x2 S
theorem kX11_confessing {l : Launch} {D : va_G} {g : Nat → Nat} {cI cB cZ cQ : ClassId} {Am : (Nat → Prop) → State → Heap → Prop} {aK aV : Nat → Nat} (O : tO l g cI cB cZ cQ Am aK aV) (P : gAm Am) (N : Nat) (x1 : Int32) (x2 : Int32) (S : gS) (o : tR) (hF : fX11_confessing N x1 x2 S = some o) : gN l yX11_confessing cX11_confessing 4 ((some .int)) 7 2 D (xtys cI cB cZ cQ) (xcell g cI cB cZ cQ) xord g Am [.ref (g 0), .int x1, .int x2] S false o :=
  gN_of P (by decide) (Nat.le_of_ble_eq_true rfl) (fun p e s m args below meth c ls C Tb X hl => bX11_confessing_0 C O Tb X (lv_sub hl [0, 1, 2] rfl) hF)
-- X11.see
noncomputable def fX11_see_b65 (N : Nat) (x1 : Int32) (x2 : Int32) (x3 : Int32) (S : gS) : Option (tR) := bnd (fX5_add N 28 x1 x2 x3 S) fun q1 => (some (0, q1.2 28 3, q1.2))
theorem bX11_see_65 {N : Nat} {x1 : Int32} {x2 : Int32} {x3 : Int32} {S : gS} {H : Heap} {locs : List Loc} {ls : Array Slot} {o : tR} (C : gC p s m args meth c cX11_see 6 RX11 ((some .int)) D (xtys cI cB cZ cQ) xord g Am) (O : tO l g cI cB cZ cQ Am aK aV) (Tb : ∀ x ∈ c.exceptionTable.toList, False) (X : gX D (xcell g cI cB cZ cQ) xord g S s H locs) (hl : lv_has ls 6 [(1, .int x1), (2, .int x2), (3, .int x3), (4, .ref (g 28))]) (hF : fX11_see_b65 N x1 x2 x3 S = some o) : W p l e (rmx 7 1) s m args below meth c H locs 1 6 (gEX below args s D (xtys cI cB cZ cQ) (xcell g cI cB cZ cQ) xord g 1 false o) (F0 m 65 ls []) := by
  unfold fX11_see_b65 at hF
  refine lv_aload C.1.1 C.1.2.1 dX11_see_65 (lv_at hl 3 rfl) ?_
  refine lv_iload_n C.1.1 C.1.2.1 dX11_see_67 rfl (lv_at hl 0 rfl) ?_
  refine lv_iload_n C.1.1 C.1.2.1 dX11_see_68 rfl (lv_at hl 1 rfl) ?_
  refine lv_iload_n C.1.1 C.1.2.1 dX11_see_69 rfl (lv_at hl 2 rfl) ?_
  obtain ⟨q1, hq1, hF⟩ := bnd_some hF
  refine x_callV C X (k := 28) xv_X11_325 (rfl : xk 28 = 5) rfl rfl (by decide) (kX5_add O.1.1 C.2.2.2.2.1 N 28 x1 x2 x3 (rfl : xk 28 = 5) S q1 hq1) (Nat.le_of_ble_eq_true rfl) (Nat.le_of_ble_eq_true rfl) (Nat.le_of_ble_eq_true rfl) (Nat.le_of_ble_eq_true rfl) rfl hl.1 rfl (Nat.le_of_ble_eq_true rfl) dX11_see_70 (fun H locs X => ?_)
  refine lv_aload C.1.1 C.1.2.1 dX11_see_73 (lv_at hl 3 rfl) ?_
  refine xg_X11_150 C O.1.1 X (k := 28) rfl dX11_see_75 ?_
  cases hF
  exact t_iret C X (by decide) (by decide) dX11_see_78
noncomputable def fX11_see_b56 (N : Nat) (S : gS) : Option (tR) := bnd (fX1_refuse N 20 2 S) fun q1 => (some (0, q1.1, q1.2))
theorem bX11_see_56 {N : Nat} {S : gS} {H : Heap} {locs : List Loc} {ls : Array Slot} {o : tR} (C : gC p s m args meth c cX11_see 6 RX11 ((some .int)) D (xtys cI cB cZ cQ) xord g Am) (O : tO l g cI cB cZ cQ Am aK aV) (Tb : ∀ x ∈ c.exceptionTable.toList, False) (X : gX D (xcell g cI cB cZ cQ) xord g S s H locs) (hl : lv_has ls 6 [(0, .ref (g 0))]) (hF : fX11_see_b56 N S = some o) : W p l e (rmx 7 1) s m args below meth c H locs 1 6 (gEX below args s D (xtys cI cB cZ cQ) (xcell g cI cB cZ cQ) xord g 1 false o) (F0 m 56 ls []) := by
  unfold fX11_see_b56 at hF
  refine lv_aload_n C.1.1 C.1.2.1 dX11_see_56 rfl (lv_at hl 0 rfl) ?_
  refine xg_X11_19 C O.1.1 X (k := 0) rfl (j := 20) rfl dX11_see_57 ?_
  refine lv_iconst (v := 2) C.1.1 C.1.2.1 dX11_see_60 (by decide) ?_
  obtain ⟨q1, hq1, hF⟩ := bnd_some hF
  refine x_callVi C X (k := 20) xv_X11_93 (rfl : xk 20 = 1) rfl rfl (by decide) (kX1_refuse O.1.1 C.2.2.2.2.1 N 20 2 (rfl : xk 20 = 1) S q1 hq1) (Nat.le_of_ble_eq_true rfl) (Nat.le_of_ble_eq_true rfl) (Nat.le_of_ble_eq_true rfl) (Nat.le_of_ble_eq_true rfl) rfl hl.1 rfl (Nat.le_of_ble_eq_true rfl) dX11_see_61 (fun H locs X => ?_)
  cases hF
  exact t_iret C X (by decide) (by decide) dX11_see_64
noncomputable def fX11_see_b46 (N : Nat) (x1 : Int32) (x2 : Int32) (x3 : Int32) (S : gS) : Option (tR) := if (S 28 3) < 8 then fX11_see_b65 N x1 x2 x3 S else fX11_see_b56 N S
theorem bX11_see_46 {N : Nat} {x1 : Int32} {x2 : Int32} {x3 : Int32} {S : gS} {H : Heap} {locs : List Loc} {ls : Array Slot} {o : tR} (C : gC p s m args meth c cX11_see 6 RX11 ((some .int)) D (xtys cI cB cZ cQ) xord g Am) (O : tO l g cI cB cZ cQ Am aK aV) (Tb : ∀ x ∈ c.exceptionTable.toList, False) (X : gX D (xcell g cI cB cZ cQ) xord g S s H locs) (hl : lv_has ls 6 [(0, .ref (g 0)), (1, .int x1), (2, .int x2), (3, .int x3), (4, .ref (g 28))]) (hF : fX11_see_b46 N x1 x2 x3 S = some o) : W p l e (rmx 7 1) s m args below meth c H locs 1 6 (gEX below args s D (xtys cI cB cZ cQ) (xcell g cI cB cZ cQ) xord g 1 false o) (F0 m 46 ls []) := by
  unfold fX11_see_b46 at hF
  refine lv_aload C.1.1 C.1.2.1 dX11_see_46 (lv_at hl 4 rfl) ?_
  refine xg_X11_150 C O.1.1 X (k := 28) rfl dX11_see_48 ?_
  refine lv_bipush (v := 8) C.1.1 C.1.2.1 dX11_see_51 (by decide) ?_
  refine lv_icmp_lt (tgt := 65) C.1.1 C.1.2.1 dX11_see_53 (by decide) (fun h_z => ?_) (fun h_z => ?_)
  · rw [if_pos h_z] at hF
    exact bX11_see_65 C O Tb X (lv_sub hl [1, 2, 3, 4] rfl) hF
  · rw [if_neg h_z] at hF
    exact bX11_see_56 C O Tb X (lv_sub hl [0] rfl) hF
noncomputable def fX11_see_b39 (N : Nat) (x1 : Int32) (x2 : Int32) (x3 : Int32) (t0 : Int32) (S : gS) : Option (tR) := if t0 = 0 then fX11_see_b56 N S else fX11_see_b46 N x1 x2 x3 S
theorem bX11_see_39 {N : Nat} {x1 : Int32} {x2 : Int32} {x3 : Int32} {t0 : Int32} {S : gS} {H : Heap} {locs : List Loc} {ls : Array Slot} {o : tR} (C : gC p s m args meth c cX11_see 6 RX11 ((some .int)) D (xtys cI cB cZ cQ) xord g Am) (O : tO l g cI cB cZ cQ Am aK aV) (Tb : ∀ x ∈ c.exceptionTable.toList, False) (X : gX D (xcell g cI cB cZ cQ) xord g S s H locs) (hl : lv_has ls 6 [(0, .ref (g 0)), (1, .int x1), (2, .int x2), (3, .int x3), (4, .ref (g 28))]) (hF : fX11_see_b39 N x1 x2 x3 t0 S = some o) : W p l e (rmx 7 1) s m args below meth c H locs 1 6 (gEX below args s D (xtys cI cB cZ cQ) (xcell g cI cB cZ cQ) xord g 1 false o) (F0 m 39 ls [.int t0]) := by
  unfold fX11_see_b39 at hF
  refine lv_istore (lv' := [(5, .int t0), (0, .ref (g 0)), (1, .int x1), (2, .int x2), (3, .int x3), (4, .ref (g 28))]) C.1.1 C.1.2.1 dX11_see_39 hl (by decide) rfl (fun ls hl => ?_)
  refine lv_iload C.1.1 C.1.2.1 dX11_see_41 (lv_at hl 0 rfl) ?_
  refine lv_if_eq (tgt := 56) C.1.1 C.1.2.1 dX11_see_43 (by decide) (fun h_z => ?_) (fun h_z => ?_)
  · rw [if_pos h_z] at hF
    exact bX11_see_56 C O Tb X (lv_sub hl [1] rfl) hF
  · rw [if_neg h_z] at hF
    exact bX11_see_46 C O Tb X (lv_sub hl [1, 2, 3, 4, 5] rfl) hF
noncomputable def fX11_see_b38 (N : Nat) (x1 : Int32) (x2 : Int32) (x3 : Int32) (S : gS) : Option (tR) := fX11_see_b39 N x1 x2 x3 0 S
theorem bX11_see_38 {N : Nat} {x1 : Int32} {x2 : Int32} {x3 : Int32} {S : gS} {H : Heap} {locs : List Loc} {ls : Array Slot} {o : tR} (C : gC p s m args meth c cX11_see 6 RX11 ((some .int)) D (xtys cI cB cZ cQ) xord g Am) (O : tO l g cI cB cZ cQ Am aK aV) (Tb : ∀ x ∈ c.exceptionTable.toList, False) (X : gX D (xcell g cI cB cZ cQ) xord g S s H locs) (hl : lv_has ls 6 [(0, .ref (g 0)), (1, .int x1), (2, .int x2), (3, .int x3), (4, .ref (g 28))]) (hF : fX11_see_b38 N x1 x2 x3 S = some o) : W p l e (rmx 7 1) s m args below meth c H locs 1 6 (gEX below args s D (xtys cI cB cZ cQ) (xcell g cI cB cZ cQ) xord g 1 false o) (F0 m 38 ls []) := by
  unfold fX11_see_b38 at hF
  refine lv_iconst (v := 0) C.1.1 C.1.2.1 dX11_see_38 (by decide) ?_
  exact bX11_see_39 C O Tb X (lv_sub hl [0, 1, 2, 3, 4] rfl) hF
noncomputable def fX11_see_b34 (N : Nat) (x1 : Int32) (x2 : Int32) (x3 : Int32) (S : gS) : Option (tR) := fX11_see_b39 N x1 x2 x3 1 S
theorem bX11_see_34 {N : Nat} {x1 : Int32} {x2 : Int32} {x3 : Int32} {S : gS} {H : Heap} {locs : List Loc} {ls : Array Slot} {o : tR} (C : gC p s m args meth c cX11_see 6 RX11 ((some .int)) D (xtys cI cB cZ cQ) xord g Am) (O : tO l g cI cB cZ cQ Am aK aV) (Tb : ∀ x ∈ c.exceptionTable.toList, False) (X : gX D (xcell g cI cB cZ cQ) xord g S s H locs) (hl : lv_has ls 6 [(0, .ref (g 0)), (1, .int x1), (2, .int x2), (3, .int x3), (4, .ref (g 28))]) (hF : fX11_see_b34 N x1 x2 x3 S = some o) : W p l e (rmx 7 1) s m args below meth c H locs 1 6 (gEX below args s D (xtys cI cB cZ cQ) (xcell g cI cB cZ cQ) xord g 1 false o) (F0 m 34 ls []) := by
  unfold fX11_see_b34 at hF
  refine lv_iconst (v := 1) C.1.1 C.1.2.1 dX11_see_34 (by decide) ?_
  refine lv_goto (tgt := 39) C.1.1 C.1.2.1 dX11_see_35 (by decide) ?_
  exact bX11_see_39 C O Tb X (lv_sub hl [0, 1, 2, 3, 4] rfl) hF
noncomputable def fX11_see_b24 (N : Nat) (x1 : Int32) (x2 : Int32) (x3 : Int32) (S : gS) : Option (tR) := bnd (fX11_isWithin N x3 0 99 S) fun q1 => (if q1.1 = 0 then fX11_see_b38 N x1 x2 x3 q1.2 else fX11_see_b34 N x1 x2 x3 q1.2)
theorem bX11_see_24 {N : Nat} {x1 : Int32} {x2 : Int32} {x3 : Int32} {S : gS} {H : Heap} {locs : List Loc} {ls : Array Slot} {o : tR} (C : gC p s m args meth c cX11_see 6 RX11 ((some .int)) D (xtys cI cB cZ cQ) xord g Am) (O : tO l g cI cB cZ cQ Am aK aV) (Tb : ∀ x ∈ c.exceptionTable.toList, False) (X : gX D (xcell g cI cB cZ cQ) xord g S s H locs) (hl : lv_has ls 6 [(0, .ref (g 0)), (1, .int x1), (2, .int x2), (3, .int x3), (4, .ref (g 28))]) (hF : fX11_see_b24 N x1 x2 x3 S = some o) : W p l e (rmx 7 1) s m args below meth c H locs 1 6 (gEX below args s D (xtys cI cB cZ cQ) (xcell g cI cB cZ cQ) xord g 1 false o) (F0 m 24 ls []) := by
  unfold fX11_see_b24 at hF
  refine lv_iload_n C.1.1 C.1.2.1 dX11_see_24 rfl (lv_at hl 3 rfl) ?_
  refine lv_iconst (v := 0) C.1.1 C.1.2.1 dX11_see_25 (by decide) ?_
  refine lv_bipush (v := 99) C.1.1 C.1.2.1 dX11_see_26 (by decide) ?_
  obtain ⟨q1, hq1, hF⟩ := bnd_some hF
  refine g_callSi C X xv_X11_214 (kX11_isWithin O.1.1 C.2.2.2.2.1 N x3 0 99 S q1 hq1) (Nat.le_of_ble_eq_true rfl) (Nat.le_of_ble_eq_true rfl) (Nat.le_of_ble_eq_true rfl) (Nat.le_of_ble_eq_true rfl) rfl hl.1 rfl (Nat.le_of_ble_eq_true rfl) dX11_see_28 (fun H locs X => ?_)
  refine lv_if_eq (tgt := 38) C.1.1 C.1.2.1 dX11_see_31 (by decide) (fun h_z => ?_) (fun h_z => ?_)
  · rw [if_pos h_z] at hF
    exact bX11_see_38 C O Tb X (lv_sub hl [0, 1, 2, 3, 4] rfl) hF
  · rw [if_neg h_z] at hF
    exact bX11_see_34 C O Tb X (lv_sub hl [0, 1, 2, 3, 4] rfl) hF
noncomputable def fX11_see_b0 (N : Nat) (x1 : Int32) (x2 : Int32) (x3 : Int32) (S : gS) : Option (tR) := bnx (fX11_needGuild N x1 S) fun q1 => (bnd (fX11_isWithin N x2 0 20 q1.2.2) fun q2 => (if q2.1 = 0 then fX11_see_b38 N x1 x2 x3 q2.2 else fX11_see_b24 N x1 x2 x3 q2.2))
theorem bX11_see_0 {N : Nat} {x1 : Int32} {x2 : Int32} {x3 : Int32} {S : gS} {H : Heap} {locs : List Loc} {ls : Array Slot} {o : tR} (C : gC p s m args meth c cX11_see 6 RX11 ((some .int)) D (xtys cI cB cZ cQ) xord g Am) (O : tO l g cI cB cZ cQ Am aK aV) (Tb : ∀ x ∈ c.exceptionTable.toList, False) (X : gX D (xcell g cI cB cZ cQ) xord g S s H locs) (hl : lv_has ls 6 [(0, .ref (g 0)), (1, .int x1), (2, .int x2), (3, .int x3)]) (hF : fX11_see_b0 N x1 x2 x3 S = some o) : W p l e (rmx 7 1) s m args below meth c H locs 0 0 (gEX below args s D (xtys cI cB cZ cQ) (xcell g cI cB cZ cQ) xord g 1 false o) (F0 m 0 ls []) := by
  unfold fX11_see_b0 at hF
  refine lv_aload_n C.1.1 C.1.2.1 dX11_see_0 rfl (lv_at hl 0 rfl) ?_
  refine lv_iload_n C.1.1 C.1.2.1 dX11_see_1 rfl (lv_at hl 1 rfl) ?_
  rcases (bnx_some hF).symm with ⟨q1, hq1, zq1, eo⟩ | ⟨q1, hq1, zq1, hF⟩
  · subst eo
    exact t_thr (x_preT C X xv_X11_191 rfl (kX11_needGuild O C.2.2.2.2.1 N x1 S q1 hq1) (Nat.le_of_ble_eq_true rfl) (Nat.le_of_ble_eq_true rfl) (Nat.le_of_ble_eq_true rfl) (Nat.le_of_ble_eq_true rfl) rfl hl.1 rfl (Nat.le_of_ble_eq_true rfl) dX11_see_2) zq1 C Tb X (by decide) (by decide)
  refine t_okv (x_preT C X xv_X11_191 rfl (kX11_needGuild O C.2.2.2.2.1 N x1 S q1 hq1) (Nat.le_of_ble_eq_true rfl) (Nat.le_of_ble_eq_true rfl) (Nat.le_of_ble_eq_true rfl) (Nat.le_of_ble_eq_true rfl) rfl hl.1 rfl (Nat.le_of_ble_eq_true rfl) dX11_see_2) zq1 X (fun H locs X => ?_)
  refine W.widen (k := 1) (n := 6) (by decide) (by decide) ?_
  refine lv_aload_n C.1.1 C.1.2.1 dX11_see_5 rfl (lv_at hl 0 rfl) ?_
  refine xg_X11_19 C O.1.1 X (k := 0) rfl (j := 20) rfl dX11_see_6 ?_
  refine xg_X11_146 C O.1.1 X (k := 20) rfl (j := 28) rfl dX11_see_9 ?_
  refine lv_astore (lv' := [(4, .ref (g 28)), (0, .ref (g 0)), (1, .int x1), (2, .int x2), (3, .int x3)]) C.1.1 C.1.2.1 dX11_see_12 hl (by decide) rfl (fun ls hl => ?_)
  refine lv_iload_n C.1.1 C.1.2.1 dX11_see_14 rfl (lv_at hl 3 rfl) ?_
  refine lv_iconst (v := 0) C.1.1 C.1.2.1 dX11_see_15 (by decide) ?_
  refine lv_bipush (v := 20) C.1.1 C.1.2.1 dX11_see_16 (by decide) ?_
  obtain ⟨q2, hq2, hF⟩ := bnd_some hF
  refine g_callSi C X xv_X11_214 (kX11_isWithin O.1.1 C.2.2.2.2.1 N x2 0 20 q1.2.2 q2 hq2) (Nat.le_of_ble_eq_true rfl) (Nat.le_of_ble_eq_true rfl) (Nat.le_of_ble_eq_true rfl) (Nat.le_of_ble_eq_true rfl) rfl hl.1 rfl (Nat.le_of_ble_eq_true rfl) dX11_see_18 (fun H locs X => ?_)
  refine lv_if_eq (tgt := 38) C.1.1 C.1.2.1 dX11_see_21 (by decide) (fun h_z => ?_) (fun h_z => ?_)
  · rw [if_pos h_z] at hF
    exact bX11_see_38 C O Tb X (lv_sub hl [1, 2, 3, 4, 0] rfl) hF
  · rw [if_neg h_z] at hF
    exact bX11_see_24 C O Tb X (lv_sub hl [1, 2, 3, 4, 0] rfl) hF
noncomputable def fX11_see (N : Nat) (x1 : Int32) (x2 : Int32) (x3 : Int32) (S : gS) : Option (tR) := fX11_see_b0 N x1 x2 x3 S
theorem kX11_see {l : Launch} {D : va_G} {g : Nat → Nat} {cI cB cZ cQ : ClassId} {Am : (Nat → Prop) → State → Heap → Prop} {aK aV : Nat → Nat} (O : tO l g cI cB cZ cQ Am aK aV) (P : gAm Am) (N : Nat) (x1 : Int32) (x2 : Int32) (x3 : Int32) (S : gS) (o : tR) (hF : fX11_see N x1 x2 x3 S = some o) : gN l yX11_see cX11_see 6 ((some .int)) 7 1 D (xtys cI cB cZ cQ) (xcell g cI cB cZ cQ) xord g Am [.ref (g 0), .int x1, .int x2, .int x3] S false o :=
  gN_of P (by decide) (Nat.le_of_ble_eq_true rfl) (fun p e s m args below meth c ls C Tb X hl => bX11_see_0 C O Tb X (lv_sub hl [0, 1, 2, 3] rfl) hF)
-- X11.greedy
noncomputable def fX11_greedy_b83 (N : Nat) (t0 : Int32) (S : gS) : Option (tR) := some (0, t0, S)
theorem bX11_greedy_83 {N : Nat} {t0 : Int32} {S : gS} {H : Heap} {locs : List Loc} {ls : Array Slot} {o : tR} (C : gC p s m args meth c cX11_greedy 2 RX11 ((some .int)) D (xtys cI cB cZ cQ) xord g Am) (O : tO l g cI cB cZ cQ Am aK aV) (Tb : ∀ x ∈ c.exceptionTable.toList, False) (X : gX D (xcell g cI cB cZ cQ) xord g S s H locs) (hl : lv_has ls 2 []) (hF : fX11_greedy_b83 N t0 S = some o) : W p l e (rmx 7 1) s m args below meth c H locs 1 6 (gEX below args s D (xtys cI cB cZ cQ) (xcell g cI cB cZ cQ) xord g 1 false o) (F0 m 83 ls [.int t0]) := by
  unfold fX11_greedy_b83 at hF
  cases hF
  exact t_iret C X (by decide) (by decide) dX11_greedy_83
noncomputable def fX11_greedy_b82 (N : Nat) (S : gS) : Option (tR) := fX11_greedy_b83 N 0 S
theorem bX11_greedy_82 {N : Nat} {S : gS} {H : Heap} {locs : List Loc} {ls : Array Slot} {o : tR} (C : gC p s m args meth c cX11_greedy 2 RX11 ((some .int)) D (xtys cI cB cZ cQ) xord g Am) (O : tO l g cI cB cZ cQ Am aK aV) (Tb : ∀ x ∈ c.exceptionTable.toList, False) (X : gX D (xcell g cI cB cZ cQ) xord g S s H locs) (hl : lv_has ls 2 []) (hF : fX11_greedy_b82 N S = some o) : W p l e (rmx 7 1) s m args below meth c H locs 1 6 (gEX below args s D (xtys cI cB cZ cQ) (xcell g cI cB cZ cQ) xord g 1 false o) (F0 m 82 ls []) := by
  unfold fX11_greedy_b82 at hF
  refine lv_iconst (v := 0) C.1.1 C.1.2.1 dX11_greedy_82 (by decide) ?_
  exact bX11_greedy_83 C O Tb X (lv_sub hl [] rfl) hF
noncomputable def fX11_greedy_b78 (N : Nat) (S : gS) : Option (tR) := fX11_greedy_b83 N 1 S
theorem bX11_greedy_78 {N : Nat} {S : gS} {H : Heap} {locs : List Loc} {ls : Array Slot} {o : tR} (C : gC p s m args meth c cX11_greedy 2 RX11 ((some .int)) D (xtys cI cB cZ cQ) xord g Am) (O : tO l g cI cB cZ cQ Am aK aV) (Tb : ∀ x ∈ c.exceptionTable.toList, False) (X : gX D (xcell g cI cB cZ cQ) xord g S s H locs) (hl : lv_has ls 2 []) (hF : fX11_greedy_b78 N S = some o) : W p l e (rmx 7 1) s m args below meth c H locs 1 6 (gEX below args s D (xtys cI cB cZ cQ) (xcell g cI cB cZ cQ) xord g 1 false o) (F0 m 78 ls []) := by
  unfold fX11_greedy_b78 at hF
  refine lv_iconst (v := 1) C.1.1 C.1.2.1 dX11_greedy_78 (by decide) ?_
  refine lv_goto (tgt := 83) C.1.1 C.1.2.1 dX11_greedy_79 (by decide) ?_
  exact bX11_greedy_83 C O Tb X (lv_sub hl [] rfl) hF
noncomputable def fX11_greedy_b68 (N : Nat) (S : gS) : Option (tR) := if (S 62 5) = 0 then fX11_greedy_b82 N S else fX11_greedy_b78 N S
theorem bX11_greedy_68 {N : Nat} {S : gS} {H : Heap} {locs : List Loc} {ls : Array Slot} {o : tR} (C : gC p s m args meth c cX11_greedy 2 RX11 ((some .int)) D (xtys cI cB cZ cQ) xord g Am) (O : tO l g cI cB cZ cQ Am aK aV) (Tb : ∀ x ∈ c.exceptionTable.toList, False) (X : gX D (xcell g cI cB cZ cQ) xord g S s H locs) (hl : lv_has ls 2 [(0, .ref (g 0))]) (hF : fX11_greedy_b68 N S = some o) : W p l e (rmx 7 1) s m args below meth c H locs 1 6 (gEX below args s D (xtys cI cB cZ cQ) (xcell g cI cB cZ cQ) xord g 1 false o) (F0 m 68 ls []) := by
  unfold fX11_greedy_b68 at hF
  refine lv_aload_n C.1.1 C.1.2.1 dX11_greedy_68 rfl (lv_at hl 0 rfl) ?_
  refine xg_X11_50 C O.1.1 X (k := 0) rfl (j := 62) rfl dX11_greedy_69 ?_
  refine xg_X11_335 C O.1.1 X (k := 62) rfl dX11_greedy_72 ?_
  refine lv_if_eq (tgt := 82) C.1.1 C.1.2.1 dX11_greedy_75 (by decide) (fun h_z => ?_) (fun h_z => ?_)
  · rw [if_pos h_z] at hF
    exact bX11_greedy_82 C O Tb X (lv_sub hl [] rfl) hF
  · rw [if_neg h_z] at hF
    exact bX11_greedy_78 C O Tb X (lv_sub hl [] rfl) hF
noncomputable def fX11_greedy_b60 (N : Nat) (S : gS) : Option (tR) := some (0, S 62 4, S)
theorem bX11_greedy_60 {N : Nat} {S : gS} {H : Heap} {locs : List Loc} {ls : Array Slot} {o : tR} (C : gC p s m args meth c cX11_greedy 2 RX11 ((some .int)) D (xtys cI cB cZ cQ) xord g Am) (O : tO l g cI cB cZ cQ Am aK aV) (Tb : ∀ x ∈ c.exceptionTable.toList, False) (X : gX D (xcell g cI cB cZ cQ) xord g S s H locs) (hl : lv_has ls 2 [(0, .ref (g 0))]) (hF : fX11_greedy_b60 N S = some o) : W p l e (rmx 7 1) s m args below meth c H locs 1 6 (gEX below args s D (xtys cI cB cZ cQ) (xcell g cI cB cZ cQ) xord g 1 false o) (F0 m 60 ls []) := by
  unfold fX11_greedy_b60 at hF
  refine lv_aload_n C.1.1 C.1.2.1 dX11_greedy_60 rfl (lv_at hl 0 rfl) ?_
  refine xg_X11_50 C O.1.1 X (k := 0) rfl (j := 62) rfl dX11_greedy_61 ?_
  refine xg_X11_332 C O.1.1 X (k := 62) rfl dX11_greedy_64 ?_
  cases hF
  exact t_iret C X (by decide) (by decide) dX11_greedy_67
noncomputable def fX11_greedy_b52 (N : Nat) (S : gS) : Option (tR) := some (0, S 62 3, S)
theorem bX11_greedy_52 {N : Nat} {S : gS} {H : Heap} {locs : List Loc} {ls : Array Slot} {o : tR} (C : gC p s m args meth c cX11_greedy 2 RX11 ((some .int)) D (xtys cI cB cZ cQ) xord g Am) (O : tO l g cI cB cZ cQ Am aK aV) (Tb : ∀ x ∈ c.exceptionTable.toList, False) (X : gX D (xcell g cI cB cZ cQ) xord g S s H locs) (hl : lv_has ls 2 [(0, .ref (g 0))]) (hF : fX11_greedy_b52 N S = some o) : W p l e (rmx 7 1) s m args below meth c H locs 1 6 (gEX below args s D (xtys cI cB cZ cQ) (xcell g cI cB cZ cQ) xord g 1 false o) (F0 m 52 ls []) := by
  unfold fX11_greedy_b52 at hF
  refine lv_aload_n C.1.1 C.1.2.1 dX11_greedy_52 rfl (lv_at hl 0 rfl) ?_
  refine xg_X11_50 C O.1.1 X (k := 0) rfl (j := 62) rfl dX11_greedy_53 ?_
  refine xg_X11_331 C O.1.1 X (k := 62) rfl dX11_greedy_56 ?_
  cases hF
  exact t_iret C X (by decide) (by decide) dX11_greedy_59
noncomputable def fX11_greedy_b0 (N : Nat) (x1 : Int32) (S : gS) : Option (tR) := bnx (fX11_needWhat N x1 2 S) fun q1 => (lt (xtw q1.2.2) fun T1 => (bnd (fX2_weigh N T1 20 q1.2.2) fun q2 => (if x1 = 0 then fX11_greedy_b52 N q2.2 else if x1 = 1 then fX11_greedy_b60 N q2.2 else fX11_greedy_b68 N q2.2)))
theorem bX11_greedy_0 {N : Nat} {x1 : Int32} {S : gS} {H : Heap} {locs : List Loc} {ls : Array Slot} {o : tR} (C : gC p s m args meth c cX11_greedy 2 RX11 ((some .int)) D (xtys cI cB cZ cQ) xord g Am) (O : tO l g cI cB cZ cQ Am aK aV) (Tb : ∀ x ∈ c.exceptionTable.toList, False) (X : gX D (xcell g cI cB cZ cQ) xord g S s H locs) (hl : lv_has ls 2 [(0, .ref (g 0)), (1, .int x1)]) (hF : fX11_greedy_b0 N x1 S = some o) : W p l e (rmx 7 1) s m args below meth c H locs 0 0 (gEX below args s D (xtys cI cB cZ cQ) (xcell g cI cB cZ cQ) xord g 1 false o) (F0 m 0 ls []) := by
  unfold fX11_greedy_b0 at hF
  refine lv_iload_n C.1.1 C.1.2.1 dX11_greedy_0 rfl (lv_at hl 1 rfl) ?_
  refine lv_iconst (v := 2) C.1.1 C.1.2.1 dX11_greedy_1 (by decide) ?_
  rcases (bnx_some hF).symm with ⟨q1, hq1, zq1, eo⟩ | ⟨q1, hq1, zq1, hF⟩
  · subst eo
    exact t_thr (t_preS C X xv_X11_236 (kX11_needWhat O C.2.2.2.2.1 N x1 2 S q1 hq1) (Nat.le_of_ble_eq_true rfl) (Nat.le_of_ble_eq_true rfl) (Nat.le_of_ble_eq_true rfl) (Nat.le_of_ble_eq_true rfl) rfl hl.1 rfl (Nat.le_of_ble_eq_true rfl) dX11_greedy_2) zq1 C Tb X (by decide) (by decide)
  refine t_okv (t_preS C X xv_X11_236 (kX11_needWhat O C.2.2.2.2.1 N x1 2 S q1 hq1) (Nat.le_of_ble_eq_true rfl) (Nat.le_of_ble_eq_true rfl) (Nat.le_of_ble_eq_true rfl) (Nat.le_of_ble_eq_true rfl) rfl hl.1 rfl (Nat.le_of_ble_eq_true rfl) dX11_greedy_2) zq1 X (fun H locs X => ?_)
  refine W.widen (k := 1) (n := 6) (by decide) (by decide) ?_
  refine lv_aload_n C.1.1 C.1.2.1 dX11_greedy_5 rfl (lv_at hl 0 rfl) ?_
  refine xg_X11_50 C O.1.1 X (k := 0) rfl (j := 62) rfl dX11_greedy_6 ?_
  refine lv_aload_n C.1.1 C.1.2.1 dX11_greedy_9 rfl (lv_at hl 0 rfl) ?_
  obtain ⟨T1, eT1, hF⟩ := lt_some hF
  have hk_T1 := xtw_k eT1
  refine xg_X11_57 C O.1.1 X (T := T1) eT1 (k := 0) rfl dX11_greedy_10 ?_
  refine lv_aload_n C.1.1 C.1.2.1 dX11_greedy_13 rfl (lv_at hl 0 rfl) ?_
  refine xg_X11_19 C O.1.1 X (k := 0) rfl (j := 20) rfl dX11_greedy_14 ?_
  refine lv_aload_n C.1.1 C.1.2.1 dX11_greedy_17 rfl (lv_at hl 0 rfl) ?_
  refine xg_X11_36 C O.1.1 X (k := 0) rfl (j := 51) rfl dX11_greedy_18 ?_
  obtain ⟨q2, hq2, hF⟩ := bnd_some hF
  refine x_callV C X (k := 62) xv_X11_327 (rfl : xk 62 = 2) rfl rfl (by decide) (kX2_weigh O.1.1 C.2.2.2.2.1 N T1 20 (hk_T1 : xk T1 = 9) (rfl : xk 20 = 1) q1.2.2 q2 hq2) (Nat.le_of_ble_eq_true rfl) (Nat.le_of_ble_eq_true rfl) (Nat.le_of_ble_eq_true rfl) (Nat.le_of_ble_eq_true rfl) rfl hl.1 rfl (Nat.le_of_ble_eq_true rfl) dX11_greedy_21 (fun H locs X => ?_)
  refine lv_iload_n C.1.1 C.1.2.1 dX11_greedy_24 rfl (lv_at hl 1 rfl) ?_
  by_cases hz_0 : x1 = 0
  · rw [if_pos hz_0] at hF
    refine lv_lookup (off := 27) (tgt := 52) C.1.1 C.1.2.1 dX11_greedy_25 (by decide) (by rw [hz_0]; decide) (by decide) ?_
    exact bX11_greedy_52 C O Tb X (lv_sub hl [0] rfl) hF
  rw [if_neg hz_0] at hF
  by_cases hz_1 : x1 = 1
  · rw [if_pos hz_1] at hF
    refine lv_lookup (off := 35) (tgt := 60) C.1.1 C.1.2.1 dX11_greedy_25 (by decide) (by rw [hz_1]; decide) (by decide) ?_
    exact bX11_greedy_60 C O Tb X (lv_sub hl [0] rfl) hF
  rw [if_neg hz_1] at hF
  refine lv_lookup (off := 43) (tgt := 68) C.1.1 C.1.2.1 dX11_greedy_25 (by decide) (g_lsw2 hz_0 hz_1) (by decide) ?_
  exact bX11_greedy_68 C O Tb X (lv_sub hl [0] rfl) hF
noncomputable def fX11_greedy (N : Nat) (x1 : Int32) (S : gS) : Option (tR) := fX11_greedy_b0 N x1 S
theorem kX11_greedy {l : Launch} {D : va_G} {g : Nat → Nat} {cI cB cZ cQ : ClassId} {Am : (Nat → Prop) → State → Heap → Prop} {aK aV : Nat → Nat} (O : tO l g cI cB cZ cQ Am aK aV) (P : gAm Am) (N : Nat) (x1 : Int32) (S : gS) (o : tR) (hF : fX11_greedy N x1 S = some o) : gN l yX11_greedy cX11_greedy 2 ((some .int)) 7 1 D (xtys cI cB cZ cQ) (xcell g cI cB cZ cQ) xord g Am [.ref (g 0), .int x1] S false o :=
  gN_of P (by decide) (Nat.le_of_ble_eq_true rfl) (fun p e s m args below meth c ls C Tb X hl => bX11_greedy_0 C O Tb X (lv_sub hl [0, 1] rfl) hF)
-- X11.look
noncomputable def fX11_look_b55 (N : Nat) (t0 : Int32) (S : gS) : Option (tR) := some (0, t0, S)
theorem bX11_look_55 {N : Nat} {t0 : Int32} {S : gS} {H : Heap} {locs : List Loc} {ls : Array Slot} {o : tR} (C : gC p s m args meth c cX11_look 3 RX11 ((some .int)) D (xtys cI cB cZ cQ) xord g Am) (O : tO l g cI cB cZ cQ Am aK aV) (Tb : ∀ x ∈ c.exceptionTable.toList, False) (X : gX D (xcell g cI cB cZ cQ) xord g S s H locs) (hl : lv_has ls 3 []) (hF : fX11_look_b55 N t0 S = some o) : W p l e (rmx 7 1) s m args below meth c H locs 1 6 (gEX below args s D (xtys cI cB cZ cQ) (xcell g cI cB cZ cQ) xord g 1 false o) (F0 m 55 ls [.int t0]) := by
  unfold fX11_look_b55 at hF
  cases hF
  exact t_iret C X (by decide) (by decide) dX11_look_55
noncomputable def fX11_look_b47 (N : Nat) (x2 : Int32) (S : gS) : Option (tR) := bnd (fX2_unlikeBehind N x2 S) fun q1 => (fX11_look_b55 N q1.1 q1.2)
theorem bX11_look_47 {N : Nat} {x2 : Int32} {S : gS} {H : Heap} {locs : List Loc} {ls : Array Slot} {o : tR} (C : gC p s m args meth c cX11_look 3 RX11 ((some .int)) D (xtys cI cB cZ cQ) xord g Am) (O : tO l g cI cB cZ cQ Am aK aV) (Tb : ∀ x ∈ c.exceptionTable.toList, False) (X : gX D (xcell g cI cB cZ cQ) xord g S s H locs) (hl : lv_has ls 3 [(0, .ref (g 0)), (2, .int x2)]) (hF : fX11_look_b47 N x2 S = some o) : W p l e (rmx 7 1) s m args below meth c H locs 1 6 (gEX below args s D (xtys cI cB cZ cQ) (xcell g cI cB cZ cQ) xord g 1 false o) (F0 m 47 ls []) := by
  unfold fX11_look_b47 at hF
  refine lv_aload_n C.1.1 C.1.2.1 dX11_look_47 rfl (lv_at hl 0 rfl) ?_
  refine xg_X11_50 C O.1.1 X (k := 0) rfl (j := 62) rfl dX11_look_48 ?_
  refine lv_iload_n C.1.1 C.1.2.1 dX11_look_51 rfl (lv_at hl 1 rfl) ?_
  obtain ⟨q1, hq1, hF⟩ := bnd_some hF
  refine x_callVi C X (k := 62) xv_X11_341 (rfl : xk 62 = 2) rfl rfl (by decide) (kX2_unlikeBehind O.1 C.2.2.2.2.1 N x2 S q1 hq1) (Nat.le_of_ble_eq_true rfl) (Nat.le_of_ble_eq_true rfl) (Nat.le_of_ble_eq_true rfl) (Nat.le_of_ble_eq_true rfl) rfl hl.1 rfl (Nat.le_of_ble_eq_true rfl) dX11_look_52 (fun H locs X => ?_)
  exact bX11_look_55 C O Tb X (lv_sub hl [] rfl) hF
noncomputable def fX11_look_b43 (N : Nat) (S : gS) : Option (tR) := fX11_look_b55 N 0 S
theorem bX11_look_43 {N : Nat} {S : gS} {H : Heap} {locs : List Loc} {ls : Array Slot} {o : tR} (C : gC p s m args meth c cX11_look 3 RX11 ((some .int)) D (xtys cI cB cZ cQ) xord g Am) (O : tO l g cI cB cZ cQ Am aK aV) (Tb : ∀ x ∈ c.exceptionTable.toList, False) (X : gX D (xcell g cI cB cZ cQ) xord g S s H locs) (hl : lv_has ls 3 []) (hF : fX11_look_b43 N S = some o) : W p l e (rmx 7 1) s m args below meth c H locs 1 6 (gEX below args s D (xtys cI cB cZ cQ) (xcell g cI cB cZ cQ) xord g 1 false o) (F0 m 43 ls []) := by
  unfold fX11_look_b43 at hF
  refine lv_iconst (v := 0) C.1.1 C.1.2.1 dX11_look_43 (by decide) ?_
  refine lv_goto (tgt := 55) C.1.1 C.1.2.1 dX11_look_44 (by decide) ?_
  exact bX11_look_55 C O Tb X (lv_sub hl [] rfl) hF
noncomputable def fX11_look_b38 (N : Nat) (x2 : Int32) (S : gS) : Option (tR) := if x2 = ((-1)) then fX11_look_b43 N S else fX11_look_b47 N x2 S
theorem bX11_look_38 {N : Nat} {x2 : Int32} {S : gS} {H : Heap} {locs : List Loc} {ls : Array Slot} {o : tR} (C : gC p s m args meth c cX11_look 3 RX11 ((some .int)) D (xtys cI cB cZ cQ) xord g Am) (O : tO l g cI cB cZ cQ Am aK aV) (Tb : ∀ x ∈ c.exceptionTable.toList, False) (X : gX D (xcell g cI cB cZ cQ) xord g S s H locs) (hl : lv_has ls 3 [(0, .ref (g 0)), (2, .int x2)]) (hF : fX11_look_b38 N x2 S = some o) : W p l e (rmx 7 1) s m args below meth c H locs 1 6 (gEX below args s D (xtys cI cB cZ cQ) (xcell g cI cB cZ cQ) xord g 1 false o) (F0 m 38 ls []) := by
  unfold fX11_look_b38 at hF
  refine lv_iload_n C.1.1 C.1.2.1 dX11_look_38 rfl (lv_at hl 1 rfl) ?_
  refine lv_iconst (v := (-1)) C.1.1 C.1.2.1 dX11_look_39 (by decide) ?_
  refine lv_icmp_ne (tgt := 47) C.1.1 C.1.2.1 dX11_look_40 (by decide) (fun h_z => ?_) (fun h_z => ?_)
  · rw [if_neg h_z] at hF
    exact bX11_look_47 C O Tb X (lv_sub hl [0, 1] rfl) hF
  · rw [if_pos h_z] at hF
    exact bX11_look_43 C O Tb X (lv_sub hl [] rfl) hF
noncomputable def fX11_look_b36 (N : Nat) (x2 : Int32) (S : gS) : Option (tR) := some (0, x2, S)
theorem bX11_look_36 {N : Nat} {x2 : Int32} {S : gS} {H : Heap} {locs : List Loc} {ls : Array Slot} {o : tR} (C : gC p s m args meth c cX11_look 3 RX11 ((some .int)) D (xtys cI cB cZ cQ) xord g Am) (O : tO l g cI cB cZ cQ Am aK aV) (Tb : ∀ x ∈ c.exceptionTable.toList, False) (X : gX D (xcell g cI cB cZ cQ) xord g S s H locs) (hl : lv_has ls 3 [(2, .int x2)]) (hF : fX11_look_b36 N x2 S = some o) : W p l e (rmx 7 1) s m args below meth c H locs 1 6 (gEX below args s D (xtys cI cB cZ cQ) (xcell g cI cB cZ cQ) xord g 1 false o) (F0 m 36 ls []) := by
  unfold fX11_look_b36 at hF
  refine lv_iload_n C.1.1 C.1.2.1 dX11_look_36 rfl (lv_at hl 0 rfl) ?_
  cases hF
  exact t_iret C X (by decide) (by decide) dX11_look_37
noncomputable def fX11_look_b0 (N : Nat) (x1 : Int32) (S : gS) : Option (tR) := bnx (fX11_needWhat N x1 1 S) fun q1 => (lt (xtw q1.2.2) fun T1 => (bnd (fX2_weigh N T1 20 q1.2.2) fun q2 => (bnd (fX2_bestLook N q2.2) fun q3 => (if x1 = 0 then fX11_look_b36 N q3.1 q3.2 else fX11_look_b38 N q3.1 q3.2))))
theorem bX11_look_0 {N : Nat} {x1 : Int32} {S : gS} {H : Heap} {locs : List Loc} {ls : Array Slot} {o : tR} (C : gC p s m args meth c cX11_look 3 RX11 ((some .int)) D (xtys cI cB cZ cQ) xord g Am) (O : tO l g cI cB cZ cQ Am aK aV) (Tb : ∀ x ∈ c.exceptionTable.toList, False) (X : gX D (xcell g cI cB cZ cQ) xord g S s H locs) (hl : lv_has ls 3 [(0, .ref (g 0)), (1, .int x1)]) (hF : fX11_look_b0 N x1 S = some o) : W p l e (rmx 7 1) s m args below meth c H locs 0 0 (gEX below args s D (xtys cI cB cZ cQ) (xcell g cI cB cZ cQ) xord g 1 false o) (F0 m 0 ls []) := by
  unfold fX11_look_b0 at hF
  refine lv_iload_n C.1.1 C.1.2.1 dX11_look_0 rfl (lv_at hl 1 rfl) ?_
  refine lv_iconst (v := 1) C.1.1 C.1.2.1 dX11_look_1 (by decide) ?_
  rcases (bnx_some hF).symm with ⟨q1, hq1, zq1, eo⟩ | ⟨q1, hq1, zq1, hF⟩
  · subst eo
    exact t_thr (t_preS C X xv_X11_236 (kX11_needWhat O C.2.2.2.2.1 N x1 1 S q1 hq1) (Nat.le_of_ble_eq_true rfl) (Nat.le_of_ble_eq_true rfl) (Nat.le_of_ble_eq_true rfl) (Nat.le_of_ble_eq_true rfl) rfl hl.1 rfl (Nat.le_of_ble_eq_true rfl) dX11_look_2) zq1 C Tb X (by decide) (by decide)
  refine t_okv (t_preS C X xv_X11_236 (kX11_needWhat O C.2.2.2.2.1 N x1 1 S q1 hq1) (Nat.le_of_ble_eq_true rfl) (Nat.le_of_ble_eq_true rfl) (Nat.le_of_ble_eq_true rfl) (Nat.le_of_ble_eq_true rfl) rfl hl.1 rfl (Nat.le_of_ble_eq_true rfl) dX11_look_2) zq1 X (fun H locs X => ?_)
  refine W.widen (k := 1) (n := 6) (by decide) (by decide) ?_
  refine lv_aload_n C.1.1 C.1.2.1 dX11_look_5 rfl (lv_at hl 0 rfl) ?_
  refine xg_X11_50 C O.1.1 X (k := 0) rfl (j := 62) rfl dX11_look_6 ?_
  refine lv_aload_n C.1.1 C.1.2.1 dX11_look_9 rfl (lv_at hl 0 rfl) ?_
  obtain ⟨T1, eT1, hF⟩ := lt_some hF
  have hk_T1 := xtw_k eT1
  refine xg_X11_57 C O.1.1 X (T := T1) eT1 (k := 0) rfl dX11_look_10 ?_
  refine lv_aload_n C.1.1 C.1.2.1 dX11_look_13 rfl (lv_at hl 0 rfl) ?_
  refine xg_X11_19 C O.1.1 X (k := 0) rfl (j := 20) rfl dX11_look_14 ?_
  refine lv_aload_n C.1.1 C.1.2.1 dX11_look_17 rfl (lv_at hl 0 rfl) ?_
  refine xg_X11_36 C O.1.1 X (k := 0) rfl (j := 51) rfl dX11_look_18 ?_
  obtain ⟨q2, hq2, hF⟩ := bnd_some hF
  refine x_callV C X (k := 62) xv_X11_327 (rfl : xk 62 = 2) rfl rfl (by decide) (kX2_weigh O.1.1 C.2.2.2.2.1 N T1 20 (hk_T1 : xk T1 = 9) (rfl : xk 20 = 1) q1.2.2 q2 hq2) (Nat.le_of_ble_eq_true rfl) (Nat.le_of_ble_eq_true rfl) (Nat.le_of_ble_eq_true rfl) (Nat.le_of_ble_eq_true rfl) rfl hl.1 rfl (Nat.le_of_ble_eq_true rfl) dX11_look_21 (fun H locs X => ?_)
  refine lv_aload_n C.1.1 C.1.2.1 dX11_look_24 rfl (lv_at hl 0 rfl) ?_
  refine xg_X11_50 C O.1.1 X (k := 0) rfl (j := 62) rfl dX11_look_25 ?_
  obtain ⟨q3, hq3, hF⟩ := bnd_some hF
  refine x_callVi C X (k := 62) xv_X11_338 (rfl : xk 62 = 2) rfl rfl (by decide) (kX2_bestLook O.1 C.2.2.2.2.1 N q2.2 q3 hq3) (Nat.le_of_ble_eq_true rfl) (Nat.le_of_ble_eq_true rfl) (Nat.le_of_ble_eq_true rfl) (Nat.le_of_ble_eq_true rfl) rfl hl.1 rfl (Nat.le_of_ble_eq_true rfl) dX11_look_28 (fun H locs X => ?_)
  refine lv_istore_n (lv' := [(2, .int q3.1), (0, .ref (g 0)), (1, .int x1)]) C.1.1 C.1.2.1 dX11_look_31 rfl hl (by decide) rfl (fun ls hl => ?_)
  refine lv_iload_n C.1.1 C.1.2.1 dX11_look_32 rfl (lv_at hl 2 rfl) ?_
  refine lv_if_ne (tgt := 38) C.1.1 C.1.2.1 dX11_look_33 (by decide) (fun h_z => ?_) (fun h_z => ?_)
  · rw [if_neg h_z] at hF
    exact bX11_look_38 C O Tb X (lv_sub hl [1, 0] rfl) hF
  · rw [if_pos h_z] at hF
    exact bX11_look_36 C O Tb X (lv_sub hl [0] rfl) hF
noncomputable def fX11_look (N : Nat) (x1 : Int32) (S : gS) : Option (tR) := fX11_look_b0 N x1 S
theorem kX11_look {l : Launch} {D : va_G} {g : Nat → Nat} {cI cB cZ cQ : ClassId} {Am : (Nat → Prop) → State → Heap → Prop} {aK aV : Nat → Nat} (O : tO l g cI cB cZ cQ Am aK aV) (P : gAm Am) (N : Nat) (x1 : Int32) (S : gS) (o : tR) (hF : fX11_look N x1 S = some o) : gN l yX11_look cX11_look 3 ((some .int)) 7 1 D (xtys cI cB cZ cQ) (xcell g cI cB cZ cQ) xord g Am [.ref (g 0), .int x1] S false o :=
  gN_of P (by decide) (Nat.le_of_ble_eq_true rfl) (fun p e s m args below meth c ls C Tb X hl => bX11_look_0 C O Tb X (lv_sub hl [0, 1] rfl) hF)
-- X11.drought
noncomputable def fX11_drought_b145 (N : Nat) (x4 : Int32) (S : gS) : Option (tR) := some (0, x4, S)
theorem bX11_drought_145 {N : Nat} {x4 : Int32} {S : gS} {H : Heap} {locs : List Loc} {ls : Array Slot} {o : tR} (C : gC p s m args meth c cX11_drought 10 RX11 ((some .int)) D (xtys cI cB cZ cQ) xord g Am) (O : tO l g cI cB cZ cQ Am aK aV) (Tb : ∀ x ∈ c.exceptionTable.toList, False) (X : gX D (xcell g cI cB cZ cQ) xord g S s H locs) (hl : lv_has ls 10 [(4, .int x4)]) (hF : fX11_drought_b145 N x4 S = some o) : W p l e (rmx 7 3) s m args below meth c H locs 3 18 (gEX below args s D (xtys cI cB cZ cQ) (xcell g cI cB cZ cQ) xord g 3 false o) (F0 m 145 ls []) := by
  unfold fX11_drought_b145 at hF
  refine lv_iload C.1.1 C.1.2.1 dX11_drought_145 (lv_at hl 0 rfl) ?_
  cases hF
  exact t_iret C X (by decide) (by decide) dX11_drought_147
noncomputable def fX11_drought_b139 (N : Nat) (r24 : Int32 → Int32 → Int32 → Int32 → Int32 → gS → Option (tR)) (x1 : Int32) (x2 : Int32) (x3 : Int32) (x4 : Int32) (x5 : Int32) (S : gS) : Option (tR) := r24 x1 x2 x3 x4 ((x5 + 1 : Int32)) S
theorem bX11_drought_139 {N : Nat} {r24 : Int32 → Int32 → Int32 → Int32 → Int32 → gS → Option (tR)} {x1 : Int32} {x2 : Int32} {x3 : Int32} {x4 : Int32} {x5 : Int32} {S : gS} {H : Heap} {locs : List Loc} {ls : Array Slot} {o : tR} (C : gC p s m args meth c cX11_drought 10 RX11 ((some .int)) D (xtys cI cB cZ cQ) xord g Am) (O : tO l g cI cB cZ cQ Am aK aV) (Tb : ∀ x ∈ c.exceptionTable.toList, False) (K24 : ∀ (x1 : Int32) (x2 : Int32) (x3 : Int32) (x4 : Int32) (x5 : Int32) (S : gS) (H : Heap) (locs : List Loc) (ls : Array Slot), gX D (xcell g cI cB cZ cQ) xord g S s H locs → lv_has ls 10 [(0, .ref (g 0)), (1, .int x1), (2, .int x2), (3, .int x3), (4, .int x4), (5, .int x5)] → r24 x1 x2 x3 x4 x5 S = some o → W p l e (rmx 7 3) s m args below meth c H locs 3 18 (gEX below args s D (xtys cI cB cZ cQ) (xcell g cI cB cZ cQ) xord g 3 false o) (F0 m 24 ls [])) (X : gX D (xcell g cI cB cZ cQ) xord g S s H locs) (hl : lv_has ls 10 [(0, .ref (g 0)), (1, .int x1), (2, .int x2), (3, .int x3), (4, .int x4), (5, .int x5)]) (hF : fX11_drought_b139 N r24 x1 x2 x3 x4 x5 S = some o) : W p l e (rmx 7 3) s m args below meth c H locs 3 18 (gEX below args s D (xtys cI cB cZ cQ) (xcell g cI cB cZ cQ) xord g 3 false o) (F0 m 139 ls []) := by
  unfold fX11_drought_b139 at hF
  refine lv_iinc (v := (x5 + 1 : Int32)) (lv' := [(5, .int ((x5 + 1 : Int32))), (0, .ref (g 0)), (1, .int x1), (2, .int x2), (3, .int x3), (4, .int x4)]) C.1.1 C.1.2.1 dX11_drought_139 hl (k := 5) rfl rfl (by decide) rfl (fun ls hl => ?_)
  refine lv_goto (tgt := 24) C.1.1 C.1.2.1 dX11_drought_142 (by decide) ?_
  exact K24 _ _ _ _ _ _ _ _ _ X (lv_sub hl [1, 2, 3, 4, 5, 0] rfl) hF
noncomputable def fX11_drought_b132 (N : Nat) (r24 : Int32 → Int32 → Int32 → Int32 → Int32 → gS → Option (tR)) (x1 : Int32) (x2 : Int32) (x3 : Int32) (x4 : Int32) (x5 : Int32) (x6 : Int32) (S : gS) : Option (tR) := fX11_drought_b139 N r24 x1 x2 x3 ((x4 + x6 : Int32)) x5 S
theorem bX11_drought_132 {N : Nat} {r24 : Int32 → Int32 → Int32 → Int32 → Int32 → gS → Option (tR)} {x1 : Int32} {x2 : Int32} {x3 : Int32} {x4 : Int32} {x5 : Int32} {x6 : Int32} {S : gS} {H : Heap} {locs : List Loc} {ls : Array Slot} {o : tR} (C : gC p s m args meth c cX11_drought 10 RX11 ((some .int)) D (xtys cI cB cZ cQ) xord g Am) (O : tO l g cI cB cZ cQ Am aK aV) (Tb : ∀ x ∈ c.exceptionTable.toList, False) (K24 : ∀ (x1 : Int32) (x2 : Int32) (x3 : Int32) (x4 : Int32) (x5 : Int32) (S : gS) (H : Heap) (locs : List Loc) (ls : Array Slot), gX D (xcell g cI cB cZ cQ) xord g S s H locs → lv_has ls 10 [(0, .ref (g 0)), (1, .int x1), (2, .int x2), (3, .int x3), (4, .int x4), (5, .int x5)] → r24 x1 x2 x3 x4 x5 S = some o → W p l e (rmx 7 3) s m args below meth c H locs 3 18 (gEX below args s D (xtys cI cB cZ cQ) (xcell g cI cB cZ cQ) xord g 3 false o) (F0 m 24 ls [])) (X : gX D (xcell g cI cB cZ cQ) xord g S s H locs) (hl : lv_has ls 10 [(0, .ref (g 0)), (1, .int x1), (2, .int x2), (3, .int x3), (4, .int x4), (5, .int x5), (6, .int x6)]) (hF : fX11_drought_b132 N r24 x1 x2 x3 x4 x5 x6 S = some o) : W p l e (rmx 7 3) s m args below meth c H locs 3 18 (gEX below args s D (xtys cI cB cZ cQ) (xcell g cI cB cZ cQ) xord g 3 false o) (F0 m 132 ls []) := by
  unfold fX11_drought_b132 at hF
  refine lv_iload C.1.1 C.1.2.1 dX11_drought_132 (lv_at hl 4 rfl) ?_
  refine lv_iload C.1.1 C.1.2.1 dX11_drought_134 (lv_at hl 6 rfl) ?_
  refine lv_iadd C.1.1 C.1.2.1 dX11_drought_136 ?_
  refine lv_istore (lv' := [(4, .int ((x4 + x6 : Int32))), (0, .ref (g 0)), (1, .int x1), (2, .int x2), (3, .int x3), (5, .int x5), (6, .int x6)]) C.1.1 C.1.2.1 dX11_drought_137 hl (by decide) rfl (fun ls hl => ?_)
  exact bX11_drought_139 C O Tb K24 X (lv_sub hl [1, 2, 3, 4, 0, 5] rfl) hF
noncomputable def fX11_drought_b127 (N : Nat) (r24 : Int32 → Int32 → Int32 → Int32 → Int32 → gS → Option (tR)) (x1 : Int32) (x2 : Int32) (x3 : Int32) (x4 : Int32) (x5 : Int32) (x6 : Int32) (x7 : Int32) (S : gS) : Option (tR) := if x7 = 0 then fX11_drought_b139 N r24 x1 x2 x3 x4 x5 S else fX11_drought_b132 N r24 x1 x2 x3 x4 x5 x6 S
theorem bX11_drought_127 {N : Nat} {r24 : Int32 → Int32 → Int32 → Int32 → Int32 → gS → Option (tR)} {x1 : Int32} {x2 : Int32} {x3 : Int32} {x4 : Int32} {x5 : Int32} {x6 : Int32} {x7 : Int32} {S : gS} {H : Heap} {locs : List Loc} {ls : Array Slot} {o : tR} (C : gC p s m args meth c cX11_drought 10 RX11 ((some .int)) D (xtys cI cB cZ cQ) xord g Am) (O : tO l g cI cB cZ cQ Am aK aV) (Tb : ∀ x ∈ c.exceptionTable.toList, False) (K24 : ∀ (x1 : Int32) (x2 : Int32) (x3 : Int32) (x4 : Int32) (x5 : Int32) (S : gS) (H : Heap) (locs : List Loc) (ls : Array Slot), gX D (xcell g cI cB cZ cQ) xord g S s H locs → lv_has ls 10 [(0, .ref (g 0)), (1, .int x1), (2, .int x2), (3, .int x3), (4, .int x4), (5, .int x5)] → r24 x1 x2 x3 x4 x5 S = some o → W p l e (rmx 7 3) s m args below meth c H locs 3 18 (gEX below args s D (xtys cI cB cZ cQ) (xcell g cI cB cZ cQ) xord g 3 false o) (F0 m 24 ls [])) (X : gX D (xcell g cI cB cZ cQ) xord g S s H locs) (hl : lv_has ls 10 [(0, .ref (g 0)), (1, .int x1), (2, .int x2), (3, .int x3), (4, .int x4), (5, .int x5), (6, .int x6), (7, .int x7)]) (hF : fX11_drought_b127 N r24 x1 x2 x3 x4 x5 x6 x7 S = some o) : W p l e (rmx 7 3) s m args below meth c H locs 3 18 (gEX below args s D (xtys cI cB cZ cQ) (xcell g cI cB cZ cQ) xord g 3 false o) (F0 m 127 ls []) := by
  unfold fX11_drought_b127 at hF
  refine lv_iload C.1.1 C.1.2.1 dX11_drought_127 (lv_at hl 7 rfl) ?_
  refine lv_if_eq (tgt := 139) C.1.1 C.1.2.1 dX11_drought_129 (by decide) (fun h_z => ?_) (fun h_z => ?_)
  · rw [if_pos h_z] at hF
    exact bX11_drought_139 C O Tb K24 X (lv_sub hl [0, 1, 2, 3, 4, 5] rfl) hF
  · rw [if_neg h_z] at hF
    exact bX11_drought_132 C O Tb K24 X (lv_sub hl [0, 1, 2, 3, 4, 5, 6] rfl) hF
noncomputable def fX11_drought_b121 (N : Nat) (r24 : Int32 → Int32 → Int32 → Int32 → Int32 → gS → Option (tR)) (r60 : Int32 → Int32 → Int32 → Int32 → Int32 → Int32 → Int32 → Int32 → gS → Option (tR)) (x1 : Int32) (x2 : Int32) (x3 : Int32) (x4 : Int32) (x5 : Int32) (x6 : Int32) (x7 : Int32) (x8 : Int32) (S : gS) : Option (tR) := r60 x1 x2 x3 x4 x5 x6 x7 ((x8 + 1 : Int32)) S
theorem bX11_drought_121 {N : Nat} {r24 : Int32 → Int32 → Int32 → Int32 → Int32 → gS → Option (tR)} {r60 : Int32 → Int32 → Int32 → Int32 → Int32 → Int32 → Int32 → Int32 → gS → Option (tR)} {x1 : Int32} {x2 : Int32} {x3 : Int32} {x4 : Int32} {x5 : Int32} {x6 : Int32} {x7 : Int32} {x8 : Int32} {S : gS} {H : Heap} {locs : List Loc} {ls : Array Slot} {o : tR} (C : gC p s m args meth c cX11_drought 10 RX11 ((some .int)) D (xtys cI cB cZ cQ) xord g Am) (O : tO l g cI cB cZ cQ Am aK aV) (Tb : ∀ x ∈ c.exceptionTable.toList, False) (K24 : ∀ (x1 : Int32) (x2 : Int32) (x3 : Int32) (x4 : Int32) (x5 : Int32) (S : gS) (H : Heap) (locs : List Loc) (ls : Array Slot), gX D (xcell g cI cB cZ cQ) xord g S s H locs → lv_has ls 10 [(0, .ref (g 0)), (1, .int x1), (2, .int x2), (3, .int x3), (4, .int x4), (5, .int x5)] → r24 x1 x2 x3 x4 x5 S = some o → W p l e (rmx 7 3) s m args below meth c H locs 3 18 (gEX below args s D (xtys cI cB cZ cQ) (xcell g cI cB cZ cQ) xord g 3 false o) (F0 m 24 ls [])) (K60 : ∀ (x1 : Int32) (x2 : Int32) (x3 : Int32) (x4 : Int32) (x5 : Int32) (x6 : Int32) (x7 : Int32) (x8 : Int32) (S : gS) (H : Heap) (locs : List Loc) (ls : Array Slot), gX D (xcell g cI cB cZ cQ) xord g S s H locs → lv_has ls 10 [(0, .ref (g 0)), (1, .int x1), (2, .int x2), (3, .int x3), (4, .int x4), (5, .int x5), (6, .int x6), (7, .int x7), (8, .int x8)] → r60 x1 x2 x3 x4 x5 x6 x7 x8 S = some o → W p l e (rmx 7 3) s m args below meth c H locs 3 18 (gEX below args s D (xtys cI cB cZ cQ) (xcell g cI cB cZ cQ) xord g 3 false o) (F0 m 60 ls [])) (X : gX D (xcell g cI cB cZ cQ) xord g S s H locs) (hl : lv_has ls 10 [(0, .ref (g 0)), (1, .int x1), (2, .int x2), (3, .int x3), (4, .int x4), (5, .int x5), (6, .int x6), (7, .int x7), (8, .int x8)]) (hF : fX11_drought_b121 N r24 r60 x1 x2 x3 x4 x5 x6 x7 x8 S = some o) : W p l e (rmx 7 3) s m args below meth c H locs 3 18 (gEX below args s D (xtys cI cB cZ cQ) (xcell g cI cB cZ cQ) xord g 3 false o) (F0 m 121 ls []) := by
  unfold fX11_drought_b121 at hF
  refine lv_iinc (v := (x8 + 1 : Int32)) (lv' := [(8, .int ((x8 + 1 : Int32))), (0, .ref (g 0)), (1, .int x1), (2, .int x2), (3, .int x3), (4, .int x4), (5, .int x5), (6, .int x6), (7, .int x7)]) C.1.1 C.1.2.1 dX11_drought_121 hl (k := 8) rfl rfl (by decide) rfl (fun ls hl => ?_)
  refine lv_goto (tgt := 60) C.1.1 C.1.2.1 dX11_drought_124 (by decide) ?_
  exact K60 _ _ _ _ _ _ _ _ _ _ _ _ X (lv_sub hl [1, 2, 3, 4, 5, 6, 7, 8, 0] rfl) hF
noncomputable def fX11_drought_b118 (N : Nat) (r24 : Int32 → Int32 → Int32 → Int32 → Int32 → gS → Option (tR)) (r60 : Int32 → Int32 → Int32 → Int32 → Int32 → Int32 → Int32 → Int32 → gS → Option (tR)) (x1 : Int32) (x2 : Int32) (x3 : Int32) (x4 : Int32) (x5 : Int32) (x6 : Int32) (x8 : Int32) (S : gS) : Option (tR) := fX11_drought_b121 N r24 r60 x1 x2 x3 x4 x5 x6 1 x8 S
theorem bX11_drought_118 {N : Nat} {r24 : Int32 → Int32 → Int32 → Int32 → Int32 → gS → Option (tR)} {r60 : Int32 → Int32 → Int32 → Int32 → Int32 → Int32 → Int32 → Int32 → gS → Option (tR)} {x1 : Int32} {x2 : Int32} {x3 : Int32} {x4 : Int32} {x5 : Int32} {x6 : Int32} {x8 : Int32} {S : gS} {H : Heap} {locs : List Loc} {ls : Array Slot} {o : tR} (C : gC p s m args meth c cX11_drought 10 RX11 ((some .int)) D (xtys cI cB cZ cQ) xord g Am) (O : tO l g cI cB cZ cQ Am aK aV) (Tb : ∀ x ∈ c.exceptionTable.toList, False) (K24 : ∀ (x1 : Int32) (x2 : Int32) (x3 : Int32) (x4 : Int32) (x5 : Int32) (S : gS) (H : Heap) (locs : List Loc) (ls : Array Slot), gX D (xcell g cI cB cZ cQ) xord g S s H locs → lv_has ls 10 [(0, .ref (g 0)), (1, .int x1), (2, .int x2), (3, .int x3), (4, .int x4), (5, .int x5)] → r24 x1 x2 x3 x4 x5 S = some o → W p l e (rmx 7 3) s m args below meth c H locs 3 18 (gEX below args s D (xtys cI cB cZ cQ) (xcell g cI cB cZ cQ) xord g 3 false o) (F0 m 24 ls [])) (K60 : ∀ (x1 : Int32) (x2 : Int32) (x3 : Int32) (x4 : Int32) (x5 : Int32) (x6 : Int32) (x7 : Int32) (x8 : Int32) (S : gS) (H : Heap) (locs : List Loc) (ls : Array Slot), gX D (xcell g cI cB cZ cQ) xord g S s H locs → lv_has ls 10 [(0, .ref (g 0)), (1, .int x1), (2, .int x2), (3, .int x3), (4, .int x4), (5, .int x5), (6, .int x6), (7, .int x7), (8, .int x8)] → r60 x1 x2 x3 x4 x5 x6 x7 x8 S = some o → W p l e (rmx 7 3) s m args below meth c H locs 3 18 (gEX below args s D (xtys cI cB cZ cQ) (xcell g cI cB cZ cQ) xord g 3 false o) (F0 m 60 ls [])) (X : gX D (xcell g cI cB cZ cQ) xord g S s H locs) (hl : lv_has ls 10 [(0, .ref (g 0)), (1, .int x1), (2, .int x2), (3, .int x3), (4, .int x4), (5, .int x5), (6, .int x6), (8, .int x8)]) (hF : fX11_drought_b118 N r24 r60 x1 x2 x3 x4 x5 x6 x8 S = some o) : W p l e (rmx 7 3) s m args below meth c H locs 3 18 (gEX below args s D (xtys cI cB cZ cQ) (xcell g cI cB cZ cQ) xord g 3 false o) (F0 m 118 ls []) := by
  unfold fX11_drought_b118 at hF
  refine lv_iconst (v := 1) C.1.1 C.1.2.1 dX11_drought_118 (by decide) ?_
  refine lv_istore (lv' := [(7, .int 1), (0, .ref (g 0)), (1, .int x1), (2, .int x2), (3, .int x3), (4, .int x4), (5, .int x5), (6, .int x6), (8, .int x8)]) C.1.1 C.1.2.1 dX11_drought_119 hl (by decide) rfl (fun ls hl => ?_)
  exact bX11_drought_121 C O Tb K24 K60 X (lv_sub hl [1, 2, 3, 4, 5, 6, 7, 0, 8] rfl) hF
noncomputable def fX11_drought_b112 (N : Nat) (r24 : Int32 → Int32 → Int32 → Int32 → Int32 → gS → Option (tR)) (r60 : Int32 → Int32 → Int32 → Int32 → Int32 → Int32 → Int32 → Int32 → gS → Option (tR)) (x1 : Int32) (x2 : Int32) (x3 : Int32) (x4 : Int32) (x5 : Int32) (x6 : Int32) (x7 : Int32) (x8 : Int32) (u1 : Nat) (t2 : Int32) (S : gS) : Option (tR) := bnd (fX10_passHour N u1 t2 S) fun q1 => (if q1.1 = 0 then fX11_drought_b121 N r24 r60 x1 x2 x3 x4 x5 x6 x7 x8 q1.2 else fX11_drought_b118 N r24 r60 x1 x2 x3 x4 x5 x6 x8 q1.2)
theorem bX11_drought_112 {N : Nat} {r24 : Int32 → Int32 → Int32 → Int32 → Int32 → gS → Option (tR)} {r60 : Int32 → Int32 → Int32 → Int32 → Int32 → Int32 → Int32 → Int32 → gS → Option (tR)} {x1 : Int32} {x2 : Int32} {x3 : Int32} {x4 : Int32} {x5 : Int32} {x6 : Int32} {x7 : Int32} {x8 : Int32} {u1 : Nat} {t2 : Int32} {S : gS} {H : Heap} {locs : List Loc} {ls : Array Slot} {o : tR} (C : gC p s m args meth c cX11_drought 10 RX11 ((some .int)) D (xtys cI cB cZ cQ) xord g Am) (O : tO l g cI cB cZ cQ Am aK aV) (Tb : ∀ x ∈ c.exceptionTable.toList, False) (K24 : ∀ (x1 : Int32) (x2 : Int32) (x3 : Int32) (x4 : Int32) (x5 : Int32) (S : gS) (H : Heap) (locs : List Loc) (ls : Array Slot), gX D (xcell g cI cB cZ cQ) xord g S s H locs → lv_has ls 10 [(0, .ref (g 0)), (1, .int x1), (2, .int x2), (3, .int x3), (4, .int x4), (5, .int x5)] → r24 x1 x2 x3 x4 x5 S = some o → W p l e (rmx 7 3) s m args below meth c H locs 3 18 (gEX below args s D (xtys cI cB cZ cQ) (xcell g cI cB cZ cQ) xord g 3 false o) (F0 m 24 ls [])) (K60 : ∀ (x1 : Int32) (x2 : Int32) (x3 : Int32) (x4 : Int32) (x5 : Int32) (x6 : Int32) (x7 : Int32) (x8 : Int32) (S : gS) (H : Heap) (locs : List Loc) (ls : Array Slot), gX D (xcell g cI cB cZ cQ) xord g S s H locs → lv_has ls 10 [(0, .ref (g 0)), (1, .int x1), (2, .int x2), (3, .int x3), (4, .int x4), (5, .int x5), (6, .int x6), (7, .int x7), (8, .int x8)] → r60 x1 x2 x3 x4 x5 x6 x7 x8 S = some o → W p l e (rmx 7 3) s m args below meth c H locs 3 18 (gEX below args s D (xtys cI cB cZ cQ) (xcell g cI cB cZ cQ) xord g 3 false o) (F0 m 60 ls [])) (hk_u1 : xk u1 = 9) (X : gX D (xcell g cI cB cZ cQ) xord g S s H locs) (hl : lv_has ls 10 [(0, .ref (g 0)), (1, .int x1), (2, .int x2), (3, .int x3), (4, .int x4), (5, .int x5), (6, .int x6), (7, .int x7), (8, .int x8)]) (hF : fX11_drought_b112 N r24 r60 x1 x2 x3 x4 x5 x6 x7 x8 u1 t2 S = some o) : W p l e (rmx 7 3) s m args below meth c H locs 3 18 (gEX below args s D (xtys cI cB cZ cQ) (xcell g cI cB cZ cQ) xord g 3 false o) (F0 m 112 ls [.int t2, .ref (g u1), .ref (g 51)]) := by
  unfold fX11_drought_b112 at hF
  obtain ⟨q1, hq1, hF⟩ := bnd_some hF
  refine x_callVi C X (k := 51) xv_X11_262 (rfl : xk 51 = 10) rfl rfl (by decide) (kX10_passHour O.1.1 C.2.2.2.2.1 N u1 t2 (hk_u1 : xk u1 = 9) S q1 hq1) (Nat.le_of_ble_eq_true rfl) (Nat.le_of_ble_eq_true rfl) (Nat.le_of_ble_eq_true rfl) (Nat.le_of_ble_eq_true rfl) rfl hl.1 rfl (Nat.le_of_ble_eq_true rfl) dX11_drought_112 (fun H locs X => ?_)
  refine lv_if_eq (tgt := 121) C.1.1 C.1.2.1 dX11_drought_115 (by decide) (fun h_z => ?_) (fun h_z => ?_)
  · rw [if_pos h_z] at hF
    exact bX11_drought_121 C O Tb K24 K60 X (lv_sub hl [0, 1, 2, 3, 4, 5, 6, 7, 8] rfl) hF
  · rw [if_neg h_z] at hF
    exact bX11_drought_118 C O Tb K24 K60 X (lv_sub hl [0, 1, 2, 3, 4, 5, 6, 8] rfl) hF
noncomputable def fX11_drought_b110 (N : Nat) (r24 : Int32 → Int32 → Int32 → Int32 → Int32 → gS → Option (tR)) (r60 : Int32 → Int32 → Int32 → Int32 → Int32 → Int32 → Int32 → Int32 → gS → Option (tR)) (x1 : Int32) (x2 : Int32) (x3 : Int32) (x4 : Int32) (x5 : Int32) (x6 : Int32) (x7 : Int32) (x8 : Int32) (u1 : Nat) (S : gS) : Option (tR) := fX11_drought_b112 N r24 r60 x1 x2 x3 x4 x5 x6 x7 x8 u1 9 S
theorem bX11_drought_110 {N : Nat} {r24 : Int32 → Int32 → Int32 → Int32 → Int32 → gS → Option (tR)} {r60 : Int32 → Int32 → Int32 → Int32 → Int32 → Int32 → Int32 → Int32 → gS → Option (tR)} {x1 : Int32} {x2 : Int32} {x3 : Int32} {x4 : Int32} {x5 : Int32} {x6 : Int32} {x7 : Int32} {x8 : Int32} {u1 : Nat} {S : gS} {H : Heap} {locs : List Loc} {ls : Array Slot} {o : tR} (C : gC p s m args meth c cX11_drought 10 RX11 ((some .int)) D (xtys cI cB cZ cQ) xord g Am) (O : tO l g cI cB cZ cQ Am aK aV) (Tb : ∀ x ∈ c.exceptionTable.toList, False) (K24 : ∀ (x1 : Int32) (x2 : Int32) (x3 : Int32) (x4 : Int32) (x5 : Int32) (S : gS) (H : Heap) (locs : List Loc) (ls : Array Slot), gX D (xcell g cI cB cZ cQ) xord g S s H locs → lv_has ls 10 [(0, .ref (g 0)), (1, .int x1), (2, .int x2), (3, .int x3), (4, .int x4), (5, .int x5)] → r24 x1 x2 x3 x4 x5 S = some o → W p l e (rmx 7 3) s m args below meth c H locs 3 18 (gEX below args s D (xtys cI cB cZ cQ) (xcell g cI cB cZ cQ) xord g 3 false o) (F0 m 24 ls [])) (K60 : ∀ (x1 : Int32) (x2 : Int32) (x3 : Int32) (x4 : Int32) (x5 : Int32) (x6 : Int32) (x7 : Int32) (x8 : Int32) (S : gS) (H : Heap) (locs : List Loc) (ls : Array Slot), gX D (xcell g cI cB cZ cQ) xord g S s H locs → lv_has ls 10 [(0, .ref (g 0)), (1, .int x1), (2, .int x2), (3, .int x3), (4, .int x4), (5, .int x5), (6, .int x6), (7, .int x7), (8, .int x8)] → r60 x1 x2 x3 x4 x5 x6 x7 x8 S = some o → W p l e (rmx 7 3) s m args below meth c H locs 3 18 (gEX below args s D (xtys cI cB cZ cQ) (xcell g cI cB cZ cQ) xord g 3 false o) (F0 m 60 ls [])) (hk_u1 : xk u1 = 9) (X : gX D (xcell g cI cB cZ cQ) xord g S s H locs) (hl : lv_has ls 10 [(0, .ref (g 0)), (1, .int x1), (2, .int x2), (3, .int x3), (4, .int x4), (5, .int x5), (6, .int x6), (7, .int x7), (8, .int x8)]) (hF : fX11_drought_b110 N r24 r60 x1 x2 x3 x4 x5 x6 x7 x8 u1 S = some o) : W p l e (rmx 7 3) s m args below meth c H locs 3 18 (gEX below args s D (xtys cI cB cZ cQ) (xcell g cI cB cZ cQ) xord g 3 false o) (F0 m 110 ls [.ref (g u1), .ref (g 51)]) := by
  unfold fX11_drought_b110 at hF
  refine lv_bipush (v := 9) C.1.1 C.1.2.1 dX11_drought_110 (by decide) ?_
  exact bX11_drought_112 C O Tb K24 K60 (hk_u1 : xk u1 = 9) X (lv_sub hl [0, 1, 2, 3, 4, 5, 6, 7, 8] rfl) hF
noncomputable def fX11_drought_b106 (N : Nat) (r24 : Int32 → Int32 → Int32 → Int32 → Int32 → gS → Option (tR)) (r60 : Int32 → Int32 → Int32 → Int32 → Int32 → Int32 → Int32 → Int32 → gS → Option (tR)) (x1 : Int32) (x2 : Int32) (x3 : Int32) (x4 : Int32) (x5 : Int32) (x6 : Int32) (x7 : Int32) (x8 : Int32) (u1 : Nat) (S : gS) : Option (tR) := fX11_drought_b112 N r24 r60 x1 x2 x3 x4 x5 x6 x7 x8 u1 0 S
theorem bX11_drought_106 {N : Nat} {r24 : Int32 → Int32 → Int32 → Int32 → Int32 → gS → Option (tR)} {r60 : Int32 → Int32 → Int32 → Int32 → Int32 → Int32 → Int32 → Int32 → gS → Option (tR)} {x1 : Int32} {x2 : Int32} {x3 : Int32} {x4 : Int32} {x5 : Int32} {x6 : Int32} {x7 : Int32} {x8 : Int32} {u1 : Nat} {S : gS} {H : Heap} {locs : List Loc} {ls : Array Slot} {o : tR} (C : gC p s m args meth c cX11_drought 10 RX11 ((some .int)) D (xtys cI cB cZ cQ) xord g Am) (O : tO l g cI cB cZ cQ Am aK aV) (Tb : ∀ x ∈ c.exceptionTable.toList, False) (K24 : ∀ (x1 : Int32) (x2 : Int32) (x3 : Int32) (x4 : Int32) (x5 : Int32) (S : gS) (H : Heap) (locs : List Loc) (ls : Array Slot), gX D (xcell g cI cB cZ cQ) xord g S s H locs → lv_has ls 10 [(0, .ref (g 0)), (1, .int x1), (2, .int x2), (3, .int x3), (4, .int x4), (5, .int x5)] → r24 x1 x2 x3 x4 x5 S = some o → W p l e (rmx 7 3) s m args below meth c H locs 3 18 (gEX below args s D (xtys cI cB cZ cQ) (xcell g cI cB cZ cQ) xord g 3 false o) (F0 m 24 ls [])) (K60 : ∀ (x1 : Int32) (x2 : Int32) (x3 : Int32) (x4 : Int32) (x5 : Int32) (x6 : Int32) (x7 : Int32) (x8 : Int32) (S : gS) (H : Heap) (locs : List Loc) (ls : Array Slot), gX D (xcell g cI cB cZ cQ) xord g S s H locs → lv_has ls 10 [(0, .ref (g 0)), (1, .int x1), (2, .int x2), (3, .int x3), (4, .int x4), (5, .int x5), (6, .int x6), (7, .int x7), (8, .int x8)] → r60 x1 x2 x3 x4 x5 x6 x7 x8 S = some o → W p l e (rmx 7 3) s m args below meth c H locs 3 18 (gEX below args s D (xtys cI cB cZ cQ) (xcell g cI cB cZ cQ) xord g 3 false o) (F0 m 60 ls [])) (hk_u1 : xk u1 = 9) (X : gX D (xcell g cI cB cZ cQ) xord g S s H locs) (hl : lv_has ls 10 [(0, .ref (g 0)), (1, .int x1), (2, .int x2), (3, .int x3), (4, .int x4), (5, .int x5), (6, .int x6), (7, .int x7), (8, .int x8)]) (hF : fX11_drought_b106 N r24 r60 x1 x2 x3 x4 x5 x6 x7 x8 u1 S = some o) : W p l e (rmx 7 3) s m args below meth c H locs 3 18 (gEX below args s D (xtys cI cB cZ cQ) (xcell g cI cB cZ cQ) xord g 3 false o) (F0 m 106 ls [.ref (g u1), .ref (g 51)]) := by
  unfold fX11_drought_b106 at hF
  refine lv_iconst (v := 0) C.1.1 C.1.2.1 dX11_drought_106 (by decide) ?_
  refine lv_goto (tgt := 112) C.1.1 C.1.2.1 dX11_drought_107 (by decide) ?_
  exact bX11_drought_112 C O Tb K24 K60 (hk_u1 : xk u1 = 9) X (lv_sub hl [0, 1, 2, 3, 4, 5, 6, 7, 8] rfl) hF
noncomputable def fX11_drought_b90 (N : Nat) (r24 : Int32 → Int32 → Int32 → Int32 → Int32 → gS → Option (tR)) (r60 : Int32 → Int32 → Int32 → Int32 → Int32 → Int32 → Int32 → Int32 → gS → Option (tR)) (x1 : Int32) (x2 : Int32) (x3 : Int32) (x4 : Int32) (x5 : Int32) (x7 : Int32) (x8 : Int32) (x9 : Int32) (t0 : Int32) (t1 : Int32) (S : gS) : Option (tR) := lt (xtw S) fun T1 => (if x9 = 0 then fX11_drought_b110 N r24 r60 x1 x2 x3 x4 x5 ((t0 * t1 : Int32)) x7 x8 T1 S else fX11_drought_b106 N r24 r60 x1 x2 x3 x4 x5 ((t0 * t1 : Int32)) x7 x8 T1 S)
theorem bX11_drought_90 {N : Nat} {r24 : Int32 → Int32 → Int32 → Int32 → Int32 → gS → Option (tR)} {r60 : Int32 → Int32 → Int32 → Int32 → Int32 → Int32 → Int32 → Int32 → gS → Option (tR)} {x1 : Int32} {x2 : Int32} {x3 : Int32} {x4 : Int32} {x5 : Int32} {x7 : Int32} {x8 : Int32} {x9 : Int32} {t0 : Int32} {t1 : Int32} {S : gS} {H : Heap} {locs : List Loc} {ls : Array Slot} {o : tR} (C : gC p s m args meth c cX11_drought 10 RX11 ((some .int)) D (xtys cI cB cZ cQ) xord g Am) (O : tO l g cI cB cZ cQ Am aK aV) (Tb : ∀ x ∈ c.exceptionTable.toList, False) (K24 : ∀ (x1 : Int32) (x2 : Int32) (x3 : Int32) (x4 : Int32) (x5 : Int32) (S : gS) (H : Heap) (locs : List Loc) (ls : Array Slot), gX D (xcell g cI cB cZ cQ) xord g S s H locs → lv_has ls 10 [(0, .ref (g 0)), (1, .int x1), (2, .int x2), (3, .int x3), (4, .int x4), (5, .int x5)] → r24 x1 x2 x3 x4 x5 S = some o → W p l e (rmx 7 3) s m args below meth c H locs 3 18 (gEX below args s D (xtys cI cB cZ cQ) (xcell g cI cB cZ cQ) xord g 3 false o) (F0 m 24 ls [])) (K60 : ∀ (x1 : Int32) (x2 : Int32) (x3 : Int32) (x4 : Int32) (x5 : Int32) (x6 : Int32) (x7 : Int32) (x8 : Int32) (S : gS) (H : Heap) (locs : List Loc) (ls : Array Slot), gX D (xcell g cI cB cZ cQ) xord g S s H locs → lv_has ls 10 [(0, .ref (g 0)), (1, .int x1), (2, .int x2), (3, .int x3), (4, .int x4), (5, .int x5), (6, .int x6), (7, .int x7), (8, .int x8)] → r60 x1 x2 x3 x4 x5 x6 x7 x8 S = some o → W p l e (rmx 7 3) s m args below meth c H locs 3 18 (gEX below args s D (xtys cI cB cZ cQ) (xcell g cI cB cZ cQ) xord g 3 false o) (F0 m 60 ls [])) (X : gX D (xcell g cI cB cZ cQ) xord g S s H locs) (hl : lv_has ls 10 [(0, .ref (g 0)), (1, .int x1), (2, .int x2), (3, .int x3), (4, .int x4), (5, .int x5), (7, .int x7), (8, .int x8), (9, .int x9)]) (hF : fX11_drought_b90 N r24 r60 x1 x2 x3 x4 x5 x7 x8 x9 t0 t1 S = some o) : W p l e (rmx 7 3) s m args below meth c H locs 3 18 (gEX below args s D (xtys cI cB cZ cQ) (xcell g cI cB cZ cQ) xord g 3 false o) (F0 m 90 ls [.int t1, .int t0]) := by
  unfold fX11_drought_b90 at hF
  refine lv_imul C.1.1 C.1.2.1 dX11_drought_90 ?_
  refine lv_istore (lv' := [(6, .int ((t0 * t1 : Int32))), (0, .ref (g 0)), (1, .int x1), (2, .int x2), (3, .int x3), (4, .int x4), (5, .int x5), (7, .int x7), (8, .int x8), (9, .int x9)]) C.1.1 C.1.2.1 dX11_drought_91 hl (by decide) rfl (fun ls hl => ?_)
  refine lv_aload_n C.1.1 C.1.2.1 dX11_drought_93 rfl (lv_at hl 1 rfl) ?_
  refine xg_X11_36 C O.1.1 X (k := 0) rfl (j := 51) rfl dX11_drought_94 ?_
  refine lv_aload_n C.1.1 C.1.2.1 dX11_drought_97 rfl (lv_at hl 1 rfl) ?_
  obtain ⟨T1, eT1, hF⟩ := lt_some hF
  have hk_T1 := xtw_k eT1
  refine xg_X11_57 C O.1.1 X (T := T1) eT1 (k := 0) rfl dX11_drought_98 ?_
  refine lv_iload C.1.1 C.1.2.1 dX11_drought_101 (lv_at hl 9 rfl) ?_
  refine lv_if_eq (tgt := 110) C.1.1 C.1.2.1 dX11_drought_103 (by decide) (fun h_z => ?_) (fun h_z => ?_)
  · rw [if_pos h_z] at hF
    exact bX11_drought_110 C O Tb K24 K60 (hk_T1 : xk T1 = 9) X (lv_sub hl [1, 2, 3, 4, 5, 6, 0, 7, 8] rfl) hF
  · rw [if_neg h_z] at hF
    exact bX11_drought_106 C O Tb K24 K60 (hk_T1 : xk T1 = 9) X (lv_sub hl [1, 2, 3, 4, 5, 6, 0, 7, 8] rfl) hF
noncomputable def fX11_drought_b86 (N : Nat) (r24 : Int32 → Int32 → Int32 → Int32 → Int32 → gS → Option (tR)) (r60 : Int32 → Int32 → Int32 → Int32 → Int32 → Int32 → Int32 → Int32 → gS → Option (tR)) (x1 : Int32) (x2 : Int32) (x3 : Int32) (x4 : Int32) (x5 : Int32) (x7 : Int32) (x8 : Int32) (x9 : Int32) (t0 : Int32) (S : gS) : Option (tR) := fX11_drought_b90 N r24 r60 x1 x2 x3 x4 x5 x7 x8 x9 t0 ((10 - x3 : Int32)) S
theorem bX11_drought_86 {N : Nat} {r24 : Int32 → Int32 → Int32 → Int32 → Int32 → gS → Option (tR)} {r60 : Int32 → Int32 → Int32 → Int32 → Int32 → Int32 → Int32 → Int32 → gS → Option (tR)} {x1 : Int32} {x2 : Int32} {x3 : Int32} {x4 : Int32} {x5 : Int32} {x7 : Int32} {x8 : Int32} {x9 : Int32} {t0 : Int32} {S : gS} {H : Heap} {locs : List Loc} {ls : Array Slot} {o : tR} (C : gC p s m args meth c cX11_drought 10 RX11 ((some .int)) D (xtys cI cB cZ cQ) xord g Am) (O : tO l g cI cB cZ cQ Am aK aV) (Tb : ∀ x ∈ c.exceptionTable.toList, False) (K24 : ∀ (x1 : Int32) (x2 : Int32) (x3 : Int32) (x4 : Int32) (x5 : Int32) (S : gS) (H : Heap) (locs : List Loc) (ls : Array Slot), gX D (xcell g cI cB cZ cQ) xord g S s H locs → lv_has ls 10 [(0, .ref (g 0)), (1, .int x1), (2, .int x2), (3, .int x3), (4, .int x4), (5, .int x5)] → r24 x1 x2 x3 x4 x5 S = some o → W p l e (rmx 7 3) s m args below meth c H locs 3 18 (gEX below args s D (xtys cI cB cZ cQ) (xcell g cI cB cZ cQ) xord g 3 false o) (F0 m 24 ls [])) (K60 : ∀ (x1 : Int32) (x2 : Int32) (x3 : Int32) (x4 : Int32) (x5 : Int32) (x6 : Int32) (x7 : Int32) (x8 : Int32) (S : gS) (H : Heap) (locs : List Loc) (ls : Array Slot), gX D (xcell g cI cB cZ cQ) xord g S s H locs → lv_has ls 10 [(0, .ref (g 0)), (1, .int x1), (2, .int x2), (3, .int x3), (4, .int x4), (5, .int x5), (6, .int x6), (7, .int x7), (8, .int x8)] → r60 x1 x2 x3 x4 x5 x6 x7 x8 S = some o → W p l e (rmx 7 3) s m args below meth c H locs 3 18 (gEX below args s D (xtys cI cB cZ cQ) (xcell g cI cB cZ cQ) xord g 3 false o) (F0 m 60 ls [])) (X : gX D (xcell g cI cB cZ cQ) xord g S s H locs) (hl : lv_has ls 10 [(0, .ref (g 0)), (1, .int x1), (2, .int x2), (3, .int x3), (4, .int x4), (5, .int x5), (7, .int x7), (8, .int x8), (9, .int x9)]) (hF : fX11_drought_b86 N r24 r60 x1 x2 x3 x4 x5 x7 x8 x9 t0 S = some o) : W p l e (rmx 7 3) s m args below meth c H locs 3 18 (gEX below args s D (xtys cI cB cZ cQ) (xcell g cI cB cZ cQ) xord g 3 false o) (F0 m 86 ls [.int t0]) := by
  unfold fX11_drought_b86 at hF
  refine lv_bipush (v := 10) C.1.1 C.1.2.1 dX11_drought_86 (by decide) ?_
  refine lv_iload_n C.1.1 C.1.2.1 dX11_drought_88 rfl (lv_at hl 3 rfl) ?_
  refine lv_isub C.1.1 C.1.2.1 dX11_drought_89 ?_
  exact bX11_drought_90 C O Tb K24 K60 X (lv_sub hl [0, 1, 2, 3, 4, 5, 6, 7, 8] rfl) hF
noncomputable def fX11_drought_b82 (N : Nat) (r24 : Int32 → Int32 → Int32 → Int32 → Int32 → gS → Option (tR)) (r60 : Int32 → Int32 → Int32 → Int32 → Int32 → Int32 → Int32 → Int32 → gS → Option (tR)) (x1 : Int32) (x2 : Int32) (x3 : Int32) (x4 : Int32) (x5 : Int32) (x7 : Int32) (x8 : Int32) (x9 : Int32) (t0 : Int32) (S : gS) : Option (tR) := fX11_drought_b90 N r24 r60 x1 x2 x3 x4 x5 x7 x8 x9 t0 x3 S
theorem bX11_drought_82 {N : Nat} {r24 : Int32 → Int32 → Int32 → Int32 → Int32 → gS → Option (tR)} {r60 : Int32 → Int32 → Int32 → Int32 → Int32 → Int32 → Int32 → Int32 → gS → Option (tR)} {x1 : Int32} {x2 : Int32} {x3 : Int32} {x4 : Int32} {x5 : Int32} {x7 : Int32} {x8 : Int32} {x9 : Int32} {t0 : Int32} {S : gS} {H : Heap} {locs : List Loc} {ls : Array Slot} {o : tR} (C : gC p s m args meth c cX11_drought 10 RX11 ((some .int)) D (xtys cI cB cZ cQ) xord g Am) (O : tO l g cI cB cZ cQ Am aK aV) (Tb : ∀ x ∈ c.exceptionTable.toList, False) (K24 : ∀ (x1 : Int32) (x2 : Int32) (x3 : Int32) (x4 : Int32) (x5 : Int32) (S : gS) (H : Heap) (locs : List Loc) (ls : Array Slot), gX D (xcell g cI cB cZ cQ) xord g S s H locs → lv_has ls 10 [(0, .ref (g 0)), (1, .int x1), (2, .int x2), (3, .int x3), (4, .int x4), (5, .int x5)] → r24 x1 x2 x3 x4 x5 S = some o → W p l e (rmx 7 3) s m args below meth c H locs 3 18 (gEX below args s D (xtys cI cB cZ cQ) (xcell g cI cB cZ cQ) xord g 3 false o) (F0 m 24 ls [])) (K60 : ∀ (x1 : Int32) (x2 : Int32) (x3 : Int32) (x4 : Int32) (x5 : Int32) (x6 : Int32) (x7 : Int32) (x8 : Int32) (S : gS) (H : Heap) (locs : List Loc) (ls : Array Slot), gX D (xcell g cI cB cZ cQ) xord g S s H locs → lv_has ls 10 [(0, .ref (g 0)), (1, .int x1), (2, .int x2), (3, .int x3), (4, .int x4), (5, .int x5), (6, .int x6), (7, .int x7), (8, .int x8)] → r60 x1 x2 x3 x4 x5 x6 x7 x8 S = some o → W p l e (rmx 7 3) s m args below meth c H locs 3 18 (gEX below args s D (xtys cI cB cZ cQ) (xcell g cI cB cZ cQ) xord g 3 false o) (F0 m 60 ls [])) (X : gX D (xcell g cI cB cZ cQ) xord g S s H locs) (hl : lv_has ls 10 [(0, .ref (g 0)), (1, .int x1), (2, .int x2), (3, .int x3), (4, .int x4), (5, .int x5), (7, .int x7), (8, .int x8), (9, .int x9)]) (hF : fX11_drought_b82 N r24 r60 x1 x2 x3 x4 x5 x7 x8 x9 t0 S = some o) : W p l e (rmx 7 3) s m args below meth c H locs 3 18 (gEX below args s D (xtys cI cB cZ cQ) (xcell g cI cB cZ cQ) xord g 3 false o) (F0 m 82 ls [.int t0]) := by
  unfold fX11_drought_b82 at hF
  refine lv_iload_n C.1.1 C.1.2.1 dX11_drought_82 rfl (lv_at hl 3 rfl) ?_
  refine lv_goto (tgt := 90) C.1.1 C.1.2.1 dX11_drought_83 (by decide) ?_
  exact bX11_drought_90 C O Tb K24 K60 X (lv_sub hl [0, 1, 2, 3, 4, 5, 6, 7, 8] rfl) hF
noncomputable def fX11_drought_b66 (N : Nat) (r24 : Int32 → Int32 → Int32 → Int32 → Int32 → gS → Option (tR)) (r60 : Int32 → Int32 → Int32 → Int32 → Int32 → Int32 → Int32 → Int32 → gS → Option (tR)) (x1 : Int32) (x2 : Int32) (x3 : Int32) (x4 : Int32) (x5 : Int32) (x6 : Int32) (x7 : Int32) (x8 : Int32) (S : gS) : Option (tR) := bnd (fX11_isOneOf N x5 x8 S) fun q1 => (if q1.1 = 0 then fX11_drought_b86 N r24 r60 x1 x2 x3 x4 x5 x7 x8 q1.1 x6 q1.2 else fX11_drought_b82 N r24 r60 x1 x2 x3 x4 x5 x7 x8 q1.1 x6 q1.2)
theorem bX11_drought_66 {N : Nat} {r24 : Int32 → Int32 → Int32 → Int32 → Int32 → gS → Option (tR)} {r60 : Int32 → Int32 → Int32 → Int32 → Int32 → Int32 → Int32 → Int32 → gS → Option (tR)} {x1 : Int32} {x2 : Int32} {x3 : Int32} {x4 : Int32} {x5 : Int32} {x6 : Int32} {x7 : Int32} {x8 : Int32} {S : gS} {H : Heap} {locs : List Loc} {ls : Array Slot} {o : tR} (C : gC p s m args meth c cX11_drought 10 RX11 ((some .int)) D (xtys cI cB cZ cQ) xord g Am) (O : tO l g cI cB cZ cQ Am aK aV) (Tb : ∀ x ∈ c.exceptionTable.toList, False) (K24 : ∀ (x1 : Int32) (x2 : Int32) (x3 : Int32) (x4 : Int32) (x5 : Int32) (S : gS) (H : Heap) (locs : List Loc) (ls : Array Slot), gX D (xcell g cI cB cZ cQ) xord g S s H locs → lv_has ls 10 [(0, .ref (g 0)), (1, .int x1), (2, .int x2), (3, .int x3), (4, .int x4), (5, .int x5)] → r24 x1 x2 x3 x4 x5 S = some o → W p l e (rmx 7 3) s m args below meth c H locs 3 18 (gEX below args s D (xtys cI cB cZ cQ) (xcell g cI cB cZ cQ) xord g 3 false o) (F0 m 24 ls [])) (K60 : ∀ (x1 : Int32) (x2 : Int32) (x3 : Int32) (x4 : Int32) (x5 : Int32) (x6 : Int32) (x7 : Int32) (x8 : Int32) (S : gS) (H : Heap) (locs : List Loc) (ls : Array Slot), gX D (xcell g cI cB cZ cQ) xord g S s H locs → lv_has ls 10 [(0, .ref (g 0)), (1, .int x1), (2, .int x2), (3, .int x3), (4, .int x4), (5, .int x5), (6, .int x6), (7, .int x7), (8, .int x8)] → r60 x1 x2 x3 x4 x5 x6 x7 x8 S = some o → W p l e (rmx 7 3) s m args below meth c H locs 3 18 (gEX below args s D (xtys cI cB cZ cQ) (xcell g cI cB cZ cQ) xord g 3 false o) (F0 m 60 ls [])) (X : gX D (xcell g cI cB cZ cQ) xord g S s H locs) (hl : lv_has ls 10 [(0, .ref (g 0)), (1, .int x1), (2, .int x2), (3, .int x3), (4, .int x4), (5, .int x5), (6, .int x6), (7, .int x7), (8, .int x8)]) (hF : fX11_drought_b66 N r24 r60 x1 x2 x3 x4 x5 x6 x7 x8 S = some o) : W p l e (rmx 7 3) s m args below meth c H locs 3 18 (gEX below args s D (xtys cI cB cZ cQ) (xcell g cI cB cZ cQ) xord g 3 false o) (F0 m 66 ls []) := by
  unfold fX11_drought_b66 at hF
  refine lv_iload C.1.1 C.1.2.1 dX11_drought_66 (lv_at hl 5 rfl) ?_
  refine lv_iload C.1.1 C.1.2.1 dX11_drought_68 (lv_at hl 8 rfl) ?_
  obtain ⟨q1, hq1, hF⟩ := bnd_some hF
  refine g_callSi C X xv_X11_279 (kX11_isOneOf O.1.1 C.2.2.2.2.1 N x5 x8 S q1 hq1) (Nat.le_of_ble_eq_true rfl) (Nat.le_of_ble_eq_true rfl) (Nat.le_of_ble_eq_true rfl) (Nat.le_of_ble_eq_true rfl) rfl hl.1 rfl (Nat.le_of_ble_eq_true rfl) dX11_drought_70 (fun H locs X => ?_)
  refine lv_istore (lv' := [(9, .int q1.1), (0, .ref (g 0)), (1, .int x1), (2, .int x2), (3, .int x3), (4, .int x4), (5, .int x5), (6, .int x6), (7, .int x7), (8, .int x8)]) C.1.1 C.1.2.1 dX11_drought_73 hl (by decide) rfl (fun ls hl => ?_)
  refine lv_iload C.1.1 C.1.2.1 dX11_drought_75 (lv_at hl 7 rfl) ?_
  refine lv_iload C.1.1 C.1.2.1 dX11_drought_77 (lv_at hl 0 rfl) ?_
  refine lv_if_eq (tgt := 86) C.1.1 C.1.2.1 dX11_drought_79 (by decide) (fun h_z => ?_) (fun h_z => ?_)
  · rw [if_pos h_z] at hF
    exact bX11_drought_86 C O Tb K24 K60 X (lv_sub hl [1, 2, 3, 4, 5, 6, 8, 9, 0] rfl) hF
  · rw [if_neg h_z] at hF
    exact bX11_drought_82 C O Tb K24 K60 X (lv_sub hl [1, 2, 3, 4, 5, 6, 8, 9, 0] rfl) hF
noncomputable def fX11_drought_b60 (N : Nat) (r24 : Int32 → Int32 → Int32 → Int32 → Int32 → gS → Option (tR)) (r60 : Int32 → Int32 → Int32 → Int32 → Int32 → Int32 → Int32 → Int32 → gS → Option (tR)) (x1 : Int32) (x2 : Int32) (x3 : Int32) (x4 : Int32) (x5 : Int32) (x6 : Int32) (x7 : Int32) (x8 : Int32) (S : gS) : Option (tR) := if x2 ≤ x8 then fX11_drought_b127 N r24 x1 x2 x3 x4 x5 x6 x7 S else fX11_drought_b66 N r24 r60 x1 x2 x3 x4 x5 x6 x7 x8 S
theorem bX11_drought_60 {N : Nat} {r24 : Int32 → Int32 → Int32 → Int32 → Int32 → gS → Option (tR)} {r60 : Int32 → Int32 → Int32 → Int32 → Int32 → Int32 → Int32 → Int32 → gS → Option (tR)} {x1 : Int32} {x2 : Int32} {x3 : Int32} {x4 : Int32} {x5 : Int32} {x6 : Int32} {x7 : Int32} {x8 : Int32} {S : gS} {H : Heap} {locs : List Loc} {ls : Array Slot} {o : tR} (C : gC p s m args meth c cX11_drought 10 RX11 ((some .int)) D (xtys cI cB cZ cQ) xord g Am) (O : tO l g cI cB cZ cQ Am aK aV) (Tb : ∀ x ∈ c.exceptionTable.toList, False) (K24 : ∀ (x1 : Int32) (x2 : Int32) (x3 : Int32) (x4 : Int32) (x5 : Int32) (S : gS) (H : Heap) (locs : List Loc) (ls : Array Slot), gX D (xcell g cI cB cZ cQ) xord g S s H locs → lv_has ls 10 [(0, .ref (g 0)), (1, .int x1), (2, .int x2), (3, .int x3), (4, .int x4), (5, .int x5)] → r24 x1 x2 x3 x4 x5 S = some o → W p l e (rmx 7 3) s m args below meth c H locs 3 18 (gEX below args s D (xtys cI cB cZ cQ) (xcell g cI cB cZ cQ) xord g 3 false o) (F0 m 24 ls [])) (K60 : ∀ (x1 : Int32) (x2 : Int32) (x3 : Int32) (x4 : Int32) (x5 : Int32) (x6 : Int32) (x7 : Int32) (x8 : Int32) (S : gS) (H : Heap) (locs : List Loc) (ls : Array Slot), gX D (xcell g cI cB cZ cQ) xord g S s H locs → lv_has ls 10 [(0, .ref (g 0)), (1, .int x1), (2, .int x2), (3, .int x3), (4, .int x4), (5, .int x5), (6, .int x6), (7, .int x7), (8, .int x8)] → r60 x1 x2 x3 x4 x5 x6 x7 x8 S = some o → W p l e (rmx 7 3) s m args below meth c H locs 3 18 (gEX below args s D (xtys cI cB cZ cQ) (xcell g cI cB cZ cQ) xord g 3 false o) (F0 m 60 ls [])) (X : gX D (xcell g cI cB cZ cQ) xord g S s H locs) (hl : lv_has ls 10 [(0, .ref (g 0)), (1, .int x1), (2, .int x2), (3, .int x3), (4, .int x4), (5, .int x5), (6, .int x6), (7, .int x7), (8, .int x8)]) (hF : fX11_drought_b60 N r24 r60 x1 x2 x3 x4 x5 x6 x7 x8 S = some o) : W p l e (rmx 7 3) s m args below meth c H locs 3 18 (gEX below args s D (xtys cI cB cZ cQ) (xcell g cI cB cZ cQ) xord g 3 false o) (F0 m 60 ls []) := by
  unfold fX11_drought_b60 at hF
  refine lv_iload C.1.1 C.1.2.1 dX11_drought_60 (lv_at hl 8 rfl) ?_
  refine lv_iload_n C.1.1 C.1.2.1 dX11_drought_62 rfl (lv_at hl 2 rfl) ?_
  refine lv_icmp_ge (tgt := 127) C.1.1 C.1.2.1 dX11_drought_63 (by decide) (fun h_z => ?_) (fun h_z => ?_)
  · rw [if_pos h_z] at hF
    exact bX11_drought_127 C O Tb K24 X (lv_sub hl [0, 1, 2, 3, 4, 5, 6, 7] rfl) hF
  · rw [if_neg h_z] at hF
    exact bX11_drought_66 C O Tb K24 K60 X (lv_sub hl [0, 1, 2, 3, 4, 5, 6, 7, 8] rfl) hF
noncomputable def fX11_drought_h60 (N : Nat) (r24 : Int32 → Int32 → Int32 → Int32 → Int32 → gS → Option (tR)) : Nat → Int32 → Int32 → Int32 → Int32 → Int32 → Int32 → Int32 → Int32 → gS → Option (tR)
  | 0, _, _, _, _, _, _, _, _, _ => none
  | n + 1, x1, x2, x3, x4, x5, x6, x7, x8, S => fX11_drought_b60 N r24 (fX11_drought_h60 N r24 n) x1 x2 x3 x4 x5 x6 x7 x8 S
theorem hX11_drought_60 {N : Nat} {r24 : Int32 → Int32 → Int32 → Int32 → Int32 → gS → Option (tR)} {o : tR} (C : gC p s m args meth c cX11_drought 10 RX11 ((some .int)) D (xtys cI cB cZ cQ) xord g Am) (O : tO l g cI cB cZ cQ Am aK aV) (Tb : ∀ x ∈ c.exceptionTable.toList, False) (K24 : ∀ (x1 : Int32) (x2 : Int32) (x3 : Int32) (x4 : Int32) (x5 : Int32) (S : gS) (H : Heap) (locs : List Loc) (ls : Array Slot), gX D (xcell g cI cB cZ cQ) xord g S s H locs → lv_has ls 10 [(0, .ref (g 0)), (1, .int x1), (2, .int x2), (3, .int x3), (4, .int x4), (5, .int x5)] → r24 x1 x2 x3 x4 x5 S = some o → W p l e (rmx 7 3) s m args below meth c H locs 3 18 (gEX below args s D (xtys cI cB cZ cQ) (xcell g cI cB cZ cQ) xord g 3 false o) (F0 m 24 ls [])) : ∀ (n : Nat) (x1 : Int32) (x2 : Int32) (x3 : Int32) (x4 : Int32) (x5 : Int32) (x6 : Int32) (x7 : Int32) (x8 : Int32) (S : gS) (H : Heap) (locs : List Loc) (ls : Array Slot), gX D (xcell g cI cB cZ cQ) xord g S s H locs → lv_has ls 10 [(0, .ref (g 0)), (1, .int x1), (2, .int x2), (3, .int x3), (4, .int x4), (5, .int x5), (6, .int x6), (7, .int x7), (8, .int x8)] → fX11_drought_h60 N r24 n x1 x2 x3 x4 x5 x6 x7 x8 S = some o → W p l e (rmx 7 3) s m args below meth c H locs 3 18 (gEX below args s D (xtys cI cB cZ cQ) (xcell g cI cB cZ cQ) xord g 3 false o) (F0 m 60 ls []) := by
  intro n
  induction n with
  | zero =>
    intro x1 x2 x3 x4 x5 x6 x7 x8 S H locs ls X hl hF
    exact absurd (show (none : Option (tR)) = some o from hF) (by simp)
  | succ n ih =>
    intro x1 x2 x3 x4 x5 x6 x7 x8 S H locs ls X hl hF
    have hF : fX11_drought_b60 N r24 (fX11_drought_h60 N r24 n) x1 x2 x3 x4 x5 x6 x7 x8 S = some o := hF
    exact bX11_drought_60 C O Tb K24 ih X hl hF
noncomputable def fX11_drought_b32 (N : Nat) (r24 : Int32 → Int32 → Int32 → Int32 → Int32 → gS → Option (tR)) (x1 : Int32) (x2 : Int32) (x3 : Int32) (x4 : Int32) (x5 : Int32) (S : gS) : Option (tR) := lt (xtw S) fun T1 => (bnd (fX10_begin N T1 21 x1 S) fun q1 => (fX11_drought_h60 N r24 N x1 x2 x3 x4 x5 1 0 0 q1.2))
theorem bX11_drought_32 {N : Nat} {r24 : Int32 → Int32 → Int32 → Int32 → Int32 → gS → Option (tR)} {x1 : Int32} {x2 : Int32} {x3 : Int32} {x4 : Int32} {x5 : Int32} {S : gS} {H : Heap} {locs : List Loc} {ls : Array Slot} {o : tR} (C : gC p s m args meth c cX11_drought 10 RX11 ((some .int)) D (xtys cI cB cZ cQ) xord g Am) (O : tO l g cI cB cZ cQ Am aK aV) (Tb : ∀ x ∈ c.exceptionTable.toList, False) (K24 : ∀ (x1 : Int32) (x2 : Int32) (x3 : Int32) (x4 : Int32) (x5 : Int32) (S : gS) (H : Heap) (locs : List Loc) (ls : Array Slot), gX D (xcell g cI cB cZ cQ) xord g S s H locs → lv_has ls 10 [(0, .ref (g 0)), (1, .int x1), (2, .int x2), (3, .int x3), (4, .int x4), (5, .int x5)] → r24 x1 x2 x3 x4 x5 S = some o → W p l e (rmx 7 3) s m args below meth c H locs 3 18 (gEX below args s D (xtys cI cB cZ cQ) (xcell g cI cB cZ cQ) xord g 3 false o) (F0 m 24 ls [])) (X : gX D (xcell g cI cB cZ cQ) xord g S s H locs) (hl : lv_has ls 10 [(0, .ref (g 0)), (1, .int x1), (2, .int x2), (3, .int x3), (4, .int x4), (5, .int x5)]) (hF : fX11_drought_b32 N r24 x1 x2 x3 x4 x5 S = some o) : W p l e (rmx 7 3) s m args below meth c H locs 3 18 (gEX below args s D (xtys cI cB cZ cQ) (xcell g cI cB cZ cQ) xord g 3 false o) (F0 m 32 ls []) := by
  unfold fX11_drought_b32 at hF
  refine lv_iconst (v := 1) C.1.1 C.1.2.1 dX11_drought_32 (by decide) ?_
  refine lv_istore (lv' := [(6, .int 1), (0, .ref (g 0)), (1, .int x1), (2, .int x2), (3, .int x3), (4, .int x4), (5, .int x5)]) C.1.1 C.1.2.1 dX11_drought_33 hl (by decide) rfl (fun ls hl => ?_)
  refine lv_iconst (v := 0) C.1.1 C.1.2.1 dX11_drought_35 (by decide) ?_
  refine lv_istore (lv' := [(7, .int 0), (6, .int 1), (0, .ref (g 0)), (1, .int x1), (2, .int x2), (3, .int x3), (4, .int x4), (5, .int x5)]) C.1.1 C.1.2.1 dX11_drought_36 hl (by decide) rfl (fun ls hl => ?_)
  refine lv_aload_n C.1.1 C.1.2.1 dX11_drought_38 rfl (lv_at hl 2 rfl) ?_
  refine xg_X11_36 C O.1.1 X (k := 0) rfl (j := 51) rfl dX11_drought_39 ?_
  refine lv_aload_n C.1.1 C.1.2.1 dX11_drought_42 rfl (lv_at hl 2 rfl) ?_
  obtain ⟨T1, eT1, hF⟩ := lt_some hF
  have hk_T1 := xtw_k eT1
  refine xg_X11_57 C O.1.1 X (T := T1) eT1 (k := 0) rfl dX11_drought_43 ?_
  refine lv_aload_n C.1.1 C.1.2.1 dX11_drought_46 rfl (lv_at hl 2 rfl) ?_
  refine xg_X11_19 C O.1.1 X (k := 0) rfl (j := 20) rfl dX11_drought_47 ?_
  refine xg_X11_105 C O.1.1 X (k := 20) rfl (j := 21) rfl dX11_drought_50 ?_
  refine lv_iload_n C.1.1 C.1.2.1 dX11_drought_53 rfl (lv_at hl 3 rfl) ?_
  obtain ⟨q1, hq1, hF⟩ := bnd_some hF
  refine x_callV C X (k := 51) xv_X11_243 (rfl : xk 51 = 10) rfl rfl (by decide) (kX10_begin O.1.1 C.2.2.2.2.1 N T1 21 x1 (hk_T1 : xk T1 = 9) (rfl : xk 21 = 7) S q1 hq1) (Nat.le_of_ble_eq_true rfl) (Nat.le_of_ble_eq_true rfl) (Nat.le_of_ble_eq_true rfl) (Nat.le_of_ble_eq_true rfl) rfl hl.1 rfl (Nat.le_of_ble_eq_true rfl) dX11_drought_54 (fun H locs X => ?_)
  refine lv_iconst (v := 0) C.1.1 C.1.2.1 dX11_drought_57 (by decide) ?_
  refine lv_istore (lv' := [(8, .int 0), (7, .int 0), (6, .int 1), (0, .ref (g 0)), (1, .int x1), (2, .int x2), (3, .int x3), (4, .int x4), (5, .int x5)]) C.1.1 C.1.2.1 dX11_drought_58 hl (by decide) rfl (fun ls hl => ?_)
  exact hX11_drought_60 C O Tb K24 N _ _ _ _ _ _ _ _ _ _ _ _ X (lv_sub hl [3, 4, 5, 6, 7, 8, 2, 1, 0] rfl) hF
noncomputable def fX11_drought_b24 (N : Nat) (r24 : Int32 → Int32 → Int32 → Int32 → Int32 → gS → Option (tR)) (x1 : Int32) (x2 : Int32) (x3 : Int32) (x4 : Int32) (x5 : Int32) (S : gS) : Option (tR) := if (((1 : Int32) <<< (x2 &&& 31) : Int32)) ≤ x5 then fX11_drought_b145 N x4 S else fX11_drought_b32 N r24 x1 x2 x3 x4 x5 S
theorem bX11_drought_24 {N : Nat} {r24 : Int32 → Int32 → Int32 → Int32 → Int32 → gS → Option (tR)} {x1 : Int32} {x2 : Int32} {x3 : Int32} {x4 : Int32} {x5 : Int32} {S : gS} {H : Heap} {locs : List Loc} {ls : Array Slot} {o : tR} (C : gC p s m args meth c cX11_drought 10 RX11 ((some .int)) D (xtys cI cB cZ cQ) xord g Am) (O : tO l g cI cB cZ cQ Am aK aV) (Tb : ∀ x ∈ c.exceptionTable.toList, False) (K24 : ∀ (x1 : Int32) (x2 : Int32) (x3 : Int32) (x4 : Int32) (x5 : Int32) (S : gS) (H : Heap) (locs : List Loc) (ls : Array Slot), gX D (xcell g cI cB cZ cQ) xord g S s H locs → lv_has ls 10 [(0, .ref (g 0)), (1, .int x1), (2, .int x2), (3, .int x3), (4, .int x4), (5, .int x5)] → r24 x1 x2 x3 x4 x5 S = some o → W p l e (rmx 7 3) s m args below meth c H locs 3 18 (gEX below args s D (xtys cI cB cZ cQ) (xcell g cI cB cZ cQ) xord g 3 false o) (F0 m 24 ls [])) (X : gX D (xcell g cI cB cZ cQ) xord g S s H locs) (hl : lv_has ls 10 [(0, .ref (g 0)), (1, .int x1), (2, .int x2), (3, .int x3), (4, .int x4), (5, .int x5)]) (hF : fX11_drought_b24 N r24 x1 x2 x3 x4 x5 S = some o) : W p l e (rmx 7 3) s m args below meth c H locs 3 18 (gEX below args s D (xtys cI cB cZ cQ) (xcell g cI cB cZ cQ) xord g 3 false o) (F0 m 24 ls []) := by
  unfold fX11_drought_b24 at hF
  refine lv_iload C.1.1 C.1.2.1 dX11_drought_24 (lv_at hl 5 rfl) ?_
  refine lv_iconst (v := 1) C.1.1 C.1.2.1 dX11_drought_26 (by decide) ?_
  refine lv_iload_n C.1.1 C.1.2.1 dX11_drought_27 rfl (lv_at hl 2 rfl) ?_
  refine lv_ishl C.1.1 C.1.2.1 dX11_drought_28 ?_
  refine lv_icmp_ge (tgt := 145) C.1.1 C.1.2.1 dX11_drought_29 (by decide) (fun h_z => ?_) (fun h_z => ?_)
  · rw [if_pos h_z] at hF
    exact bX11_drought_145 C O Tb X (lv_sub hl [4] rfl) hF
  · rw [if_neg h_z] at hF
    exact bX11_drought_32 C O Tb K24 X (lv_sub hl [0, 1, 2, 3, 4, 5] rfl) hF
noncomputable def fX11_drought_h24 (N : Nat) : Nat → Int32 → Int32 → Int32 → Int32 → Int32 → gS → Option (tR)
  | 0, _, _, _, _, _, _ => none
  | n + 1, x1, x2, x3, x4, x5, S => fX11_drought_b24 N (fX11_drought_h24 N n) x1 x2 x3 x4 x5 S
theorem hX11_drought_24 {N : Nat} {o : tR} (C : gC p s m args meth c cX11_drought 10 RX11 ((some .int)) D (xtys cI cB cZ cQ) xord g Am) (O : tO l g cI cB cZ cQ Am aK aV) (Tb : ∀ x ∈ c.exceptionTable.toList, False) : ∀ (n : Nat) (x1 : Int32) (x2 : Int32) (x3 : Int32) (x4 : Int32) (x5 : Int32) (S : gS) (H : Heap) (locs : List Loc) (ls : Array Slot), gX D (xcell g cI cB cZ cQ) xord g S s H locs → lv_has ls 10 [(0, .ref (g 0)), (1, .int x1), (2, .int x2), (3, .int x3), (4, .int x4), (5, .int x5)] → fX11_drought_h24 N n x1 x2 x3 x4 x5 S = some o → W p l e (rmx 7 3) s m args below meth c H locs 3 18 (gEX below args s D (xtys cI cB cZ cQ) (xcell g cI cB cZ cQ) xord g 3 false o) (F0 m 24 ls []) := by
  intro n
  induction n with
  | zero =>
    intro x1 x2 x3 x4 x5 S H locs ls X hl hF
    exact absurd (show (none : Option (tR)) = some o from hF) (by simp)
  | succ n ih =>
    intro x1 x2 x3 x4 x5 S H locs ls X hl hF
    have hF : fX11_drought_b24 N (fX11_drought_h24 N n) x1 x2 x3 x4 x5 S = some o := hF
    exact bX11_drought_24 C O Tb ih X hl hF
noncomputable def fX11_drought_b0 (N : Nat) (x1 : Int32) (x2 : Int32) (x3 : Int32) (S : gS) : Option (tR) := bnx (fX11_needGuild N x1 S) fun q1 => (bnx (fX11_needWithin N x2 1 5 q1.2.2) fun q2 => (bnx (fX11_needWithin N x3 0 10 q2.2.2) fun q3 => (fX11_drought_h24 N N x1 x2 x3 0 0 q3.2.2)))
theorem bX11_drought_0 {N : Nat} {x1 : Int32} {x2 : Int32} {x3 : Int32} {S : gS} {H : Heap} {locs : List Loc} {ls : Array Slot} {o : tR} (C : gC p s m args meth c cX11_drought 10 RX11 ((some .int)) D (xtys cI cB cZ cQ) xord g Am) (O : tO l g cI cB cZ cQ Am aK aV) (Tb : ∀ x ∈ c.exceptionTable.toList, False) (X : gX D (xcell g cI cB cZ cQ) xord g S s H locs) (hl : lv_has ls 10 [(0, .ref (g 0)), (1, .int x1), (2, .int x2), (3, .int x3)]) (hF : fX11_drought_b0 N x1 x2 x3 S = some o) : W p l e (rmx 7 3) s m args below meth c H locs 0 0 (gEX below args s D (xtys cI cB cZ cQ) (xcell g cI cB cZ cQ) xord g 3 false o) (F0 m 0 ls []) := by
  unfold fX11_drought_b0 at hF
  refine lv_aload_n C.1.1 C.1.2.1 dX11_drought_0 rfl (lv_at hl 0 rfl) ?_
  refine lv_iload_n C.1.1 C.1.2.1 dX11_drought_1 rfl (lv_at hl 1 rfl) ?_
  rcases (bnx_some hF).symm with ⟨q1, hq1, zq1, eo⟩ | ⟨q1, hq1, zq1, hF⟩
  · subst eo
    exact t_thr (x_preT C X xv_X11_191 rfl (kX11_needGuild O C.2.2.2.2.1 N x1 S q1 hq1) (Nat.le_of_ble_eq_true rfl) (Nat.le_of_ble_eq_true rfl) (Nat.le_of_ble_eq_true rfl) (Nat.le_of_ble_eq_true rfl) rfl hl.1 rfl (Nat.le_of_ble_eq_true rfl) dX11_drought_2) zq1 C Tb X (by decide) (by decide)
  refine t_okv (x_preT C X xv_X11_191 rfl (kX11_needGuild O C.2.2.2.2.1 N x1 S q1 hq1) (Nat.le_of_ble_eq_true rfl) (Nat.le_of_ble_eq_true rfl) (Nat.le_of_ble_eq_true rfl) (Nat.le_of_ble_eq_true rfl) rfl hl.1 rfl (Nat.le_of_ble_eq_true rfl) dX11_drought_2) zq1 X (fun H locs X => ?_)
  refine W.widen (k := 1) (n := 6) (by decide) (by decide) ?_
  refine lv_iload_n C.1.1 C.1.2.1 dX11_drought_5 rfl (lv_at hl 2 rfl) ?_
  refine lv_iconst (v := 1) C.1.1 C.1.2.1 dX11_drought_6 (by decide) ?_
  refine lv_iconst (v := 5) C.1.1 C.1.2.1 dX11_drought_7 (by decide) ?_
  rcases (bnx_some hF).symm with ⟨q2, hq2, zq2, eo⟩ | ⟨q2, hq2, zq2, hF⟩
  · subst eo
    exact t_thr (t_preS C X xv_X11_239 (kX11_needWithin O C.2.2.2.2.1 N x2 1 5 q1.2.2 q2 hq2) (Nat.le_of_ble_eq_true rfl) (Nat.le_of_ble_eq_true rfl) (Nat.le_of_ble_eq_true rfl) (Nat.le_of_ble_eq_true rfl) rfl hl.1 rfl (Nat.le_of_ble_eq_true rfl) dX11_drought_8) zq2 C Tb X (by decide) (by decide)
  refine t_okv (t_preS C X xv_X11_239 (kX11_needWithin O C.2.2.2.2.1 N x2 1 5 q1.2.2 q2 hq2) (Nat.le_of_ble_eq_true rfl) (Nat.le_of_ble_eq_true rfl) (Nat.le_of_ble_eq_true rfl) (Nat.le_of_ble_eq_true rfl) rfl hl.1 rfl (Nat.le_of_ble_eq_true rfl) dX11_drought_8) zq2 X (fun H locs X => ?_)
  refine W.widen (k := 2) (n := 12) (by decide) (by decide) ?_
  refine lv_iload_n C.1.1 C.1.2.1 dX11_drought_11 rfl (lv_at hl 3 rfl) ?_
  refine lv_iconst (v := 0) C.1.1 C.1.2.1 dX11_drought_12 (by decide) ?_
  refine lv_bipush (v := 10) C.1.1 C.1.2.1 dX11_drought_13 (by decide) ?_
  rcases (bnx_some hF).symm with ⟨q3, hq3, zq3, eo⟩ | ⟨q3, hq3, zq3, hF⟩
  · subst eo
    exact t_thr (t_preS C X xv_X11_239 (kX11_needWithin O C.2.2.2.2.1 N x3 0 10 q2.2.2 q3 hq3) (Nat.le_of_ble_eq_true rfl) (Nat.le_of_ble_eq_true rfl) (Nat.le_of_ble_eq_true rfl) (Nat.le_of_ble_eq_true rfl) rfl hl.1 rfl (Nat.le_of_ble_eq_true rfl) dX11_drought_15) zq3 C Tb X (by decide) (by decide)
  refine t_okv (t_preS C X xv_X11_239 (kX11_needWithin O C.2.2.2.2.1 N x3 0 10 q2.2.2 q3 hq3) (Nat.le_of_ble_eq_true rfl) (Nat.le_of_ble_eq_true rfl) (Nat.le_of_ble_eq_true rfl) (Nat.le_of_ble_eq_true rfl) rfl hl.1 rfl (Nat.le_of_ble_eq_true rfl) dX11_drought_15) zq3 X (fun H locs X => ?_)
  refine W.widen (k := 3) (n := 18) (by decide) (by decide) ?_
  refine lv_iconst (v := 0) C.1.1 C.1.2.1 dX11_drought_18 (by decide) ?_
  refine lv_istore (lv' := [(4, .int 0), (0, .ref (g 0)), (1, .int x1), (2, .int x2), (3, .int x3)]) C.1.1 C.1.2.1 dX11_drought_19 hl (by decide) rfl (fun ls hl => ?_)
  refine lv_iconst (v := 0) C.1.1 C.1.2.1 dX11_drought_21 (by decide) ?_
  refine lv_istore (lv' := [(5, .int 0), (4, .int 0), (0, .ref (g 0)), (1, .int x1), (2, .int x2), (3, .int x3)]) C.1.1 C.1.2.1 dX11_drought_22 hl (by decide) rfl (fun ls hl => ?_)
  exact hX11_drought_24 C O Tb N _ _ _ _ _ _ _ _ _ X (lv_sub hl [2, 3, 4, 5, 1, 0] rfl) hF
noncomputable def fX11_drought (N : Nat) (x1 : Int32) (x2 : Int32) (x3 : Int32) (S : gS) : Option (tR) := fX11_drought_b0 N x1 x2 x3 S
theorem kX11_drought {l : Launch} {D : va_G} {g : Nat → Nat} {cI cB cZ cQ : ClassId} {Am : (Nat → Prop) → State → Heap → Prop} {aK aV : Nat → Nat} (O : tO l g cI cB cZ cQ Am aK aV) (P : gAm Am) (N : Nat) (x1 : Int32) (x2 : Int32) (x3 : Int32) (S : gS) (o : tR) (hF : fX11_drought N x1 x2 x3 S = some o) : gN l yX11_drought cX11_drought 10 ((some .int)) 7 3 D (xtys cI cB cZ cQ) (xcell g cI cB cZ cQ) xord g Am [.ref (g 0), .int x1, .int x2, .int x3] S false o :=
  gN_of P (by decide) (Nat.le_of_ble_eq_true rfl) (fun p e s m args below meth c ls C Tb X hl => bX11_drought_0 C O Tb X (lv_sub hl [0, 1, 2, 3] rfl) hF)
-- X11.game
noncomputable def fX11_game_b136 (N : Nat) (t0 : Int32) (S : gS) : Option (tR) := some (0, t0, S)
theorem bX11_game_136 {N : Nat} {t0 : Int32} {S : gS} {H : Heap} {locs : List Loc} {ls : Array Slot} {o : tR} (C : gC p s m args meth c cX11_game 8 RX11 ((some .int)) D (xtys cI cB cZ cQ) xord g Am) (O : tO l g cI cB cZ cQ Am aK aV) (Tb : ∀ x ∈ c.exceptionTable.toList, False) (X : gX D (xcell g cI cB cZ cQ) xord g S s H locs) (hl : lv_has ls 8 []) (hF : fX11_game_b136 N t0 S = some o) : W p l e (rmx 7 4) s m args below meth c H locs 3 18 (gEX below args s D (xtys cI cB cZ cQ) (xcell g cI cB cZ cQ) xord g 4 false o) (F0 m 136 ls [.int t0]) := by
  unfold fX11_game_b136 at hF
  cases hF
  exact t_iret C X (by decide) (by decide) dX11_game_136
noncomputable def fX11_game_b134 (N : Nat) (x5 : Int32) (S : gS) : Option (tR) := fX11_game_b136 N x5 S
theorem bX11_game_134 {N : Nat} {x5 : Int32} {S : gS} {H : Heap} {locs : List Loc} {ls : Array Slot} {o : tR} (C : gC p s m args meth c cX11_game 8 RX11 ((some .int)) D (xtys cI cB cZ cQ) xord g Am) (O : tO l g cI cB cZ cQ Am aK aV) (Tb : ∀ x ∈ c.exceptionTable.toList, False) (X : gX D (xcell g cI cB cZ cQ) xord g S s H locs) (hl : lv_has ls 8 [(5, .int x5)]) (hF : fX11_game_b134 N x5 S = some o) : W p l e (rmx 7 4) s m args below meth c H locs 3 18 (gEX below args s D (xtys cI cB cZ cQ) (xcell g cI cB cZ cQ) xord g 4 false o) (F0 m 134 ls []) := by
  unfold fX11_game_b134 at hF
  refine lv_iload C.1.1 C.1.2.1 dX11_game_134 (lv_at hl 0 rfl) ?_
  exact bX11_game_136 C O Tb X (lv_sub hl [] rfl) hF
noncomputable def fX11_game_b129 (N : Nat) (x4 : Int32) (S : gS) : Option (tR) := fX11_game_b136 N x4 S
theorem bX11_game_129 {N : Nat} {x4 : Int32} {S : gS} {H : Heap} {locs : List Loc} {ls : Array Slot} {o : tR} (C : gC p s m args meth c cX11_game 8 RX11 ((some .int)) D (xtys cI cB cZ cQ) xord g Am) (O : tO l g cI cB cZ cQ Am aK aV) (Tb : ∀ x ∈ c.exceptionTable.toList, False) (X : gX D (xcell g cI cB cZ cQ) xord g S s H locs) (hl : lv_has ls 8 [(4, .int x4)]) (hF : fX11_game_b129 N x4 S = some o) : W p l e (rmx 7 4) s m args below meth c H locs 3 18 (gEX below args s D (xtys cI cB cZ cQ) (xcell g cI cB cZ cQ) xord g 4 false o) (F0 m 129 ls []) := by
  unfold fX11_game_b129 at hF
  refine lv_iload C.1.1 C.1.2.1 dX11_game_129 (lv_at hl 0 rfl) ?_
  refine lv_goto (tgt := 136) C.1.1 C.1.2.1 dX11_game_131 (by decide) ?_
  exact bX11_game_136 C O Tb X (lv_sub hl [] rfl) hF
noncomputable def fX11_game_b125 (N : Nat) (x3 : Int32) (x4 : Int32) (x5 : Int32) (S : gS) : Option (tR) := if x3 = 0 then fX11_game_b129 N x4 S else fX11_game_b134 N x5 S
theorem bX11_game_125 {N : Nat} {x3 : Int32} {x4 : Int32} {x5 : Int32} {S : gS} {H : Heap} {locs : List Loc} {ls : Array Slot} {o : tR} (C : gC p s m args meth c cX11_game 8 RX11 ((some .int)) D (xtys cI cB cZ cQ) xord g Am) (O : tO l g cI cB cZ cQ Am aK aV) (Tb : ∀ x ∈ c.exceptionTable.toList, False) (X : gX D (xcell g cI cB cZ cQ) xord g S s H locs) (hl : lv_has ls 8 [(3, .int x3), (4, .int x4), (5, .int x5)]) (hF : fX11_game_b125 N x3 x4 x5 S = some o) : W p l e (rmx 7 4) s m args below meth c H locs 3 18 (gEX below args s D (xtys cI cB cZ cQ) (xcell g cI cB cZ cQ) xord g 4 false o) (F0 m 125 ls []) := by
  unfold fX11_game_b125 at hF
  refine lv_iload_n C.1.1 C.1.2.1 dX11_game_125 rfl (lv_at hl 0 rfl) ?_
  refine lv_if_ne (tgt := 134) C.1.1 C.1.2.1 dX11_game_126 (by decide) (fun h_z => ?_) (fun h_z => ?_)
  · rw [if_neg h_z] at hF
    exact bX11_game_134 C O Tb X (lv_sub hl [2] rfl) hF
  · rw [if_pos h_z] at hF
    exact bX11_game_129 C O Tb X (lv_sub hl [1] rfl) hF
noncomputable def fX11_game_b119 (N : Nat) (r40 : Int32 → Int32 → Int32 → Int32 → Int32 → Int32 → gS → Option (tR)) (x1 : Int32) (x2 : Int32) (x3 : Int32) (x4 : Int32) (x5 : Int32) (x6 : Int32) (S : gS) : Option (tR) := r40 x1 x2 x3 x4 x5 ((x6 + 1 : Int32)) S
theorem bX11_game_119 {N : Nat} {r40 : Int32 → Int32 → Int32 → Int32 → Int32 → Int32 → gS → Option (tR)} {x1 : Int32} {x2 : Int32} {x3 : Int32} {x4 : Int32} {x5 : Int32} {x6 : Int32} {S : gS} {H : Heap} {locs : List Loc} {ls : Array Slot} {o : tR} (C : gC p s m args meth c cX11_game 8 RX11 ((some .int)) D (xtys cI cB cZ cQ) xord g Am) (O : tO l g cI cB cZ cQ Am aK aV) (Tb : ∀ x ∈ c.exceptionTable.toList, False) (K40 : ∀ (x1 : Int32) (x2 : Int32) (x3 : Int32) (x4 : Int32) (x5 : Int32) (x6 : Int32) (S : gS) (H : Heap) (locs : List Loc) (ls : Array Slot), gX D (xcell g cI cB cZ cQ) xord g S s H locs → lv_has ls 8 [(0, .ref (g 0)), (1, .int x1), (2, .int x2), (3, .int x3), (4, .int x4), (5, .int x5), (6, .int x6)] → r40 x1 x2 x3 x4 x5 x6 S = some o → W p l e (rmx 7 4) s m args below meth c H locs 3 18 (gEX below args s D (xtys cI cB cZ cQ) (xcell g cI cB cZ cQ) xord g 4 false o) (F0 m 40 ls [])) (X : gX D (xcell g cI cB cZ cQ) xord g S s H locs) (hl : lv_has ls 8 [(0, .ref (g 0)), (1, .int x1), (2, .int x2), (3, .int x3), (4, .int x4), (5, .int x5), (6, .int x6)]) (hF : fX11_game_b119 N r40 x1 x2 x3 x4 x5 x6 S = some o) : W p l e (rmx 7 4) s m args below meth c H locs 3 18 (gEX below args s D (xtys cI cB cZ cQ) (xcell g cI cB cZ cQ) xord g 4 false o) (F0 m 119 ls []) := by
  unfold fX11_game_b119 at hF
  refine lv_iinc (v := (x6 + 1 : Int32)) (lv' := [(6, .int ((x6 + 1 : Int32))), (0, .ref (g 0)), (1, .int x1), (2, .int x2), (3, .int x3), (4, .int x4), (5, .int x5)]) C.1.1 C.1.2.1 dX11_game_119 hl (k := 6) rfl rfl (by decide) rfl (fun ls hl => ?_)
  refine lv_goto (tgt := 40) C.1.1 C.1.2.1 dX11_game_122 (by decide) ?_
  exact K40 _ _ _ _ _ _ _ _ _ _ X (lv_sub hl [1, 2, 3, 4, 5, 6, 0] rfl) hF
noncomputable def fX11_game_b113 (N : Nat) (r40 : Int32 → Int32 → Int32 → Int32 → Int32 → Int32 → gS → Option (tR)) (r53 : Int32 → Int32 → Int32 → Int32 → Int32 → Int32 → Int32 → gS → Option (tR)) (x1 : Int32) (x2 : Int32) (x3 : Int32) (x4 : Int32) (x5 : Int32) (x6 : Int32) (x7 : Int32) (S : gS) : Option (tR) := r53 x1 x2 x3 x4 x5 x6 ((x7 + 1 : Int32)) S
theorem bX11_game_113 {N : Nat} {r40 : Int32 → Int32 → Int32 → Int32 → Int32 → Int32 → gS → Option (tR)} {r53 : Int32 → Int32 → Int32 → Int32 → Int32 → Int32 → Int32 → gS → Option (tR)} {x1 : Int32} {x2 : Int32} {x3 : Int32} {x4 : Int32} {x5 : Int32} {x6 : Int32} {x7 : Int32} {S : gS} {H : Heap} {locs : List Loc} {ls : Array Slot} {o : tR} (C : gC p s m args meth c cX11_game 8 RX11 ((some .int)) D (xtys cI cB cZ cQ) xord g Am) (O : tO l g cI cB cZ cQ Am aK aV) (Tb : ∀ x ∈ c.exceptionTable.toList, False) (K40 : ∀ (x1 : Int32) (x2 : Int32) (x3 : Int32) (x4 : Int32) (x5 : Int32) (x6 : Int32) (S : gS) (H : Heap) (locs : List Loc) (ls : Array Slot), gX D (xcell g cI cB cZ cQ) xord g S s H locs → lv_has ls 8 [(0, .ref (g 0)), (1, .int x1), (2, .int x2), (3, .int x3), (4, .int x4), (5, .int x5), (6, .int x6)] → r40 x1 x2 x3 x4 x5 x6 S = some o → W p l e (rmx 7 4) s m args below meth c H locs 3 18 (gEX below args s D (xtys cI cB cZ cQ) (xcell g cI cB cZ cQ) xord g 4 false o) (F0 m 40 ls [])) (K53 : ∀ (x1 : Int32) (x2 : Int32) (x3 : Int32) (x4 : Int32) (x5 : Int32) (x6 : Int32) (x7 : Int32) (S : gS) (H : Heap) (locs : List Loc) (ls : Array Slot), gX D (xcell g cI cB cZ cQ) xord g S s H locs → lv_has ls 8 [(0, .ref (g 0)), (1, .int x1), (2, .int x2), (3, .int x3), (4, .int x4), (5, .int x5), (6, .int x6), (7, .int x7)] → r53 x1 x2 x3 x4 x5 x6 x7 S = some o → W p l e (rmx 7 4) s m args below meth c H locs 3 18 (gEX below args s D (xtys cI cB cZ cQ) (xcell g cI cB cZ cQ) xord g 4 false o) (F0 m 53 ls [])) (X : gX D (xcell g cI cB cZ cQ) xord g S s H locs) (hl : lv_has ls 8 [(0, .ref (g 0)), (1, .int x1), (2, .int x2), (3, .int x3), (4, .int x4), (5, .int x5), (6, .int x6), (7, .int x7)]) (hF : fX11_game_b113 N r40 r53 x1 x2 x3 x4 x5 x6 x7 S = some o) : W p l e (rmx 7 4) s m args below meth c H locs 3 18 (gEX below args s D (xtys cI cB cZ cQ) (xcell g cI cB cZ cQ) xord g 4 false o) (F0 m 113 ls []) := by
  unfold fX11_game_b113 at hF
  refine lv_iinc (v := (x7 + 1 : Int32)) (lv' := [(7, .int ((x7 + 1 : Int32))), (0, .ref (g 0)), (1, .int x1), (2, .int x2), (3, .int x3), (4, .int x4), (5, .int x5), (6, .int x6)]) C.1.1 C.1.2.1 dX11_game_113 hl (k := 7) rfl rfl (by decide) rfl (fun ls hl => ?_)
  refine lv_goto (tgt := 53) C.1.1 C.1.2.1 dX11_game_116 (by decide) ?_
  exact K53 _ _ _ _ _ _ _ _ _ _ _ X (lv_sub hl [1, 2, 3, 4, 5, 6, 7, 0] rfl) hF
noncomputable def fX11_game_b111 (N : Nat) (r40 : Int32 → Int32 → Int32 → Int32 → Int32 → Int32 → gS → Option (tR)) (r53 : Int32 → Int32 → Int32 → Int32 → Int32 → Int32 → Int32 → gS → Option (tR)) (x1 : Int32) (x2 : Int32) (x3 : Int32) (x4 : Int32) (x6 : Int32) (x7 : Int32) (t0 : Int32) (S : gS) : Option (tR) := fX11_game_b113 N r40 r53 x1 x2 x3 x4 t0 x6 x7 S
theorem bX11_game_111 {N : Nat} {r40 : Int32 → Int32 → Int32 → Int32 → Int32 → Int32 → gS → Option (tR)} {r53 : Int32 → Int32 → Int32 → Int32 → Int32 → Int32 → Int32 → gS → Option (tR)} {x1 : Int32} {x2 : Int32} {x3 : Int32} {x4 : Int32} {x6 : Int32} {x7 : Int32} {t0 : Int32} {S : gS} {H : Heap} {locs : List Loc} {ls : Array Slot} {o : tR} (C : gC p s m args meth c cX11_game 8 RX11 ((some .int)) D (xtys cI cB cZ cQ) xord g Am) (O : tO l g cI cB cZ cQ Am aK aV) (Tb : ∀ x ∈ c.exceptionTable.toList, False) (K40 : ∀ (x1 : Int32) (x2 : Int32) (x3 : Int32) (x4 : Int32) (x5 : Int32) (x6 : Int32) (S : gS) (H : Heap) (locs : List Loc) (ls : Array Slot), gX D (xcell g cI cB cZ cQ) xord g S s H locs → lv_has ls 8 [(0, .ref (g 0)), (1, .int x1), (2, .int x2), (3, .int x3), (4, .int x4), (5, .int x5), (6, .int x6)] → r40 x1 x2 x3 x4 x5 x6 S = some o → W p l e (rmx 7 4) s m args below meth c H locs 3 18 (gEX below args s D (xtys cI cB cZ cQ) (xcell g cI cB cZ cQ) xord g 4 false o) (F0 m 40 ls [])) (K53 : ∀ (x1 : Int32) (x2 : Int32) (x3 : Int32) (x4 : Int32) (x5 : Int32) (x6 : Int32) (x7 : Int32) (S : gS) (H : Heap) (locs : List Loc) (ls : Array Slot), gX D (xcell g cI cB cZ cQ) xord g S s H locs → lv_has ls 8 [(0, .ref (g 0)), (1, .int x1), (2, .int x2), (3, .int x3), (4, .int x4), (5, .int x5), (6, .int x6), (7, .int x7)] → r53 x1 x2 x3 x4 x5 x6 x7 S = some o → W p l e (rmx 7 4) s m args below meth c H locs 3 18 (gEX below args s D (xtys cI cB cZ cQ) (xcell g cI cB cZ cQ) xord g 4 false o) (F0 m 53 ls [])) (X : gX D (xcell g cI cB cZ cQ) xord g S s H locs) (hl : lv_has ls 8 [(0, .ref (g 0)), (1, .int x1), (2, .int x2), (3, .int x3), (4, .int x4), (6, .int x6), (7, .int x7)]) (hF : fX11_game_b111 N r40 r53 x1 x2 x3 x4 x6 x7 t0 S = some o) : W p l e (rmx 7 4) s m args below meth c H locs 3 18 (gEX below args s D (xtys cI cB cZ cQ) (xcell g cI cB cZ cQ) xord g 4 false o) (F0 m 111 ls [.int t0]) := by
  unfold fX11_game_b111 at hF
  refine lv_istore (lv' := [(5, .int t0), (0, .ref (g 0)), (1, .int x1), (2, .int x2), (3, .int x3), (4, .int x4), (6, .int x6), (7, .int x7)]) C.1.1 C.1.2.1 dX11_game_111 hl (by decide) rfl (fun ls hl => ?_)
  exact bX11_game_113 C O Tb K40 K53 X (lv_sub hl [1, 2, 3, 4, 5, 0, 6, 7] rfl) hF
noncomputable def fX11_game_b109 (N : Nat) (r40 : Int32 → Int32 → Int32 → Int32 → Int32 → Int32 → gS → Option (tR)) (r53 : Int32 → Int32 → Int32 → Int32 → Int32 → Int32 → Int32 → gS → Option (tR)) (x1 : Int32) (x2 : Int32) (x3 : Int32) (x4 : Int32) (x5 : Int32) (x6 : Int32) (x7 : Int32) (S : gS) : Option (tR) := fX11_game_b111 N r40 r53 x1 x2 x3 x4 x6 x7 x5 S
theorem bX11_game_109 {N : Nat} {r40 : Int32 → Int32 → Int32 → Int32 → Int32 → Int32 → gS → Option (tR)} {r53 : Int32 → Int32 → Int32 → Int32 → Int32 → Int32 → Int32 → gS → Option (tR)} {x1 : Int32} {x2 : Int32} {x3 : Int32} {x4 : Int32} {x5 : Int32} {x6 : Int32} {x7 : Int32} {S : gS} {H : Heap} {locs : List Loc} {ls : Array Slot} {o : tR} (C : gC p s m args meth c cX11_game 8 RX11 ((some .int)) D (xtys cI cB cZ cQ) xord g Am) (O : tO l g cI cB cZ cQ Am aK aV) (Tb : ∀ x ∈ c.exceptionTable.toList, False) (K40 : ∀ (x1 : Int32) (x2 : Int32) (x3 : Int32) (x4 : Int32) (x5 : Int32) (x6 : Int32) (S : gS) (H : Heap) (locs : List Loc) (ls : Array Slot), gX D (xcell g cI cB cZ cQ) xord g S s H locs → lv_has ls 8 [(0, .ref (g 0)), (1, .int x1), (2, .int x2), (3, .int x3), (4, .int x4), (5, .int x5), (6, .int x6)] → r40 x1 x2 x3 x4 x5 x6 S = some o → W p l e (rmx 7 4) s m args below meth c H locs 3 18 (gEX below args s D (xtys cI cB cZ cQ) (xcell g cI cB cZ cQ) xord g 4 false o) (F0 m 40 ls [])) (K53 : ∀ (x1 : Int32) (x2 : Int32) (x3 : Int32) (x4 : Int32) (x5 : Int32) (x6 : Int32) (x7 : Int32) (S : gS) (H : Heap) (locs : List Loc) (ls : Array Slot), gX D (xcell g cI cB cZ cQ) xord g S s H locs → lv_has ls 8 [(0, .ref (g 0)), (1, .int x1), (2, .int x2), (3, .int x3), (4, .int x4), (5, .int x5), (6, .int x6), (7, .int x7)] → r53 x1 x2 x3 x4 x5 x6 x7 S = some o → W p l e (rmx 7 4) s m args below meth c H locs 3 18 (gEX below args s D (xtys cI cB cZ cQ) (xcell g cI cB cZ cQ) xord g 4 false o) (F0 m 53 ls [])) (X : gX D (xcell g cI cB cZ cQ) xord g S s H locs) (hl : lv_has ls 8 [(0, .ref (g 0)), (1, .int x1), (2, .int x2), (3, .int x3), (4, .int x4), (5, .int x5), (6, .int x6), (7, .int x7)]) (hF : fX11_game_b109 N r40 r53 x1 x2 x3 x4 x5 x6 x7 S = some o) : W p l e (rmx 7 4) s m args below meth c H locs 3 18 (gEX below args s D (xtys cI cB cZ cQ) (xcell g cI cB cZ cQ) xord g 4 false o) (F0 m 109 ls []) := by
  unfold fX11_game_b109 at hF
  refine lv_iload C.1.1 C.1.2.1 dX11_game_109 (lv_at hl 5 rfl) ?_
  exact bX11_game_111 C O Tb K40 K53 X (lv_sub hl [0, 1, 2, 3, 4, 6, 7] rfl) hF
noncomputable def fX11_game_b98 (N : Nat) (r40 : Int32 → Int32 → Int32 → Int32 → Int32 → Int32 → gS → Option (tR)) (r53 : Int32 → Int32 → Int32 → Int32 → Int32 → Int32 → Int32 → gS → Option (tR)) (x1 : Int32) (x2 : Int32) (x3 : Int32) (x4 : Int32) (x6 : Int32) (x7 : Int32) (S : gS) : Option (tR) := fX11_game_b111 N r40 r53 x1 x2 x3 x4 x6 x7 ((((10 * x6 : Int32)) + x7 : Int32)) S
theorem bX11_game_98 {N : Nat} {r40 : Int32 → Int32 → Int32 → Int32 → Int32 → Int32 → gS → Option (tR)} {r53 : Int32 → Int32 → Int32 → Int32 → Int32 → Int32 → Int32 → gS → Option (tR)} {x1 : Int32} {x2 : Int32} {x3 : Int32} {x4 : Int32} {x6 : Int32} {x7 : Int32} {S : gS} {H : Heap} {locs : List Loc} {ls : Array Slot} {o : tR} (C : gC p s m args meth c cX11_game 8 RX11 ((some .int)) D (xtys cI cB cZ cQ) xord g Am) (O : tO l g cI cB cZ cQ Am aK aV) (Tb : ∀ x ∈ c.exceptionTable.toList, False) (K40 : ∀ (x1 : Int32) (x2 : Int32) (x3 : Int32) (x4 : Int32) (x5 : Int32) (x6 : Int32) (S : gS) (H : Heap) (locs : List Loc) (ls : Array Slot), gX D (xcell g cI cB cZ cQ) xord g S s H locs → lv_has ls 8 [(0, .ref (g 0)), (1, .int x1), (2, .int x2), (3, .int x3), (4, .int x4), (5, .int x5), (6, .int x6)] → r40 x1 x2 x3 x4 x5 x6 S = some o → W p l e (rmx 7 4) s m args below meth c H locs 3 18 (gEX below args s D (xtys cI cB cZ cQ) (xcell g cI cB cZ cQ) xord g 4 false o) (F0 m 40 ls [])) (K53 : ∀ (x1 : Int32) (x2 : Int32) (x3 : Int32) (x4 : Int32) (x5 : Int32) (x6 : Int32) (x7 : Int32) (S : gS) (H : Heap) (locs : List Loc) (ls : Array Slot), gX D (xcell g cI cB cZ cQ) xord g S s H locs → lv_has ls 8 [(0, .ref (g 0)), (1, .int x1), (2, .int x2), (3, .int x3), (4, .int x4), (5, .int x5), (6, .int x6), (7, .int x7)] → r53 x1 x2 x3 x4 x5 x6 x7 S = some o → W p l e (rmx 7 4) s m args below meth c H locs 3 18 (gEX below args s D (xtys cI cB cZ cQ) (xcell g cI cB cZ cQ) xord g 4 false o) (F0 m 53 ls [])) (X : gX D (xcell g cI cB cZ cQ) xord g S s H locs) (hl : lv_has ls 8 [(0, .ref (g 0)), (1, .int x1), (2, .int x2), (3, .int x3), (4, .int x4), (6, .int x6), (7, .int x7)]) (hF : fX11_game_b98 N r40 r53 x1 x2 x3 x4 x6 x7 S = some o) : W p l e (rmx 7 4) s m args below meth c H locs 3 18 (gEX below args s D (xtys cI cB cZ cQ) (xcell g cI cB cZ cQ) xord g 4 false o) (F0 m 98 ls []) := by
  unfold fX11_game_b98 at hF
  refine lv_bipush (v := 10) C.1.1 C.1.2.1 dX11_game_98 (by decide) ?_
  refine lv_iload C.1.1 C.1.2.1 dX11_game_100 (lv_at hl 5 rfl) ?_
  refine lv_imul C.1.1 C.1.2.1 dX11_game_102 ?_
  refine lv_iload C.1.1 C.1.2.1 dX11_game_103 (lv_at hl 6 rfl) ?_
  refine lv_iadd C.1.1 C.1.2.1 dX11_game_105 ?_
  refine lv_goto (tgt := 111) C.1.1 C.1.2.1 dX11_game_106 (by decide) ?_
  exact bX11_game_111 C O Tb K40 K53 X (lv_sub hl [0, 1, 2, 3, 4, 5, 6] rfl) hF
noncomputable def fX11_game_b89 (N : Nat) (r40 : Int32 → Int32 → Int32 → Int32 → Int32 → Int32 → gS → Option (tR)) (r53 : Int32 → Int32 → Int32 → Int32 → Int32 → Int32 → Int32 → gS → Option (tR)) (x1 : Int32) (x2 : Int32) (x3 : Int32) (x4 : Int32) (x5 : Int32) (x6 : Int32) (x7 : Int32) (S : gS) : Option (tR) := if x5 = ((-1)) then fX11_game_b98 N r40 r53 x1 x2 x3 ((x4 + 1 : Int32)) x6 x7 S else fX11_game_b109 N r40 r53 x1 x2 x3 ((x4 + 1 : Int32)) x5 x6 x7 S
theorem bX11_game_89 {N : Nat} {r40 : Int32 → Int32 → Int32 → Int32 → Int32 → Int32 → gS → Option (tR)} {r53 : Int32 → Int32 → Int32 → Int32 → Int32 → Int32 → Int32 → gS → Option (tR)} {x1 : Int32} {x2 : Int32} {x3 : Int32} {x4 : Int32} {x5 : Int32} {x6 : Int32} {x7 : Int32} {S : gS} {H : Heap} {locs : List Loc} {ls : Array Slot} {o : tR} (C : gC p s m args meth c cX11_game 8 RX11 ((some .int)) D (xtys cI cB cZ cQ) xord g Am) (O : tO l g cI cB cZ cQ Am aK aV) (Tb : ∀ x ∈ c.exceptionTable.toList, False) (K40 : ∀ (x1 : Int32) (x2 : Int32) (x3 : Int32) (x4 : Int32) (x5 : Int32) (x6 : Int32) (S : gS) (H : Heap) (locs : List Loc) (ls : Array Slot), gX D (xcell g cI cB cZ cQ) xord g S s H locs → lv_has ls 8 [(0, .ref (g 0)), (1, .int x1), (2, .int x2), (3, .int x3), (4, .int x4), (5, .int x5), (6, .int x6)] → r40 x1 x2 x3 x4 x5 x6 S = some o → W p l e (rmx 7 4) s m args below meth c H locs 3 18 (gEX below args s D (xtys cI cB cZ cQ) (xcell g cI cB cZ cQ) xord g 4 false o) (F0 m 40 ls [])) (K53 : ∀ (x1 : Int32) (x2 : Int32) (x3 : Int32) (x4 : Int32) (x5 : Int32) (x6 : Int32) (x7 : Int32) (S : gS) (H : Heap) (locs : List Loc) (ls : Array Slot), gX D (xcell g cI cB cZ cQ) xord g S s H locs → lv_has ls 8 [(0, .ref (g 0)), (1, .int x1), (2, .int x2), (3, .int x3), (4, .int x4), (5, .int x5), (6, .int x6), (7, .int x7)] → r53 x1 x2 x3 x4 x5 x6 x7 S = some o → W p l e (rmx 7 4) s m args below meth c H locs 3 18 (gEX below args s D (xtys cI cB cZ cQ) (xcell g cI cB cZ cQ) xord g 4 false o) (F0 m 53 ls [])) (X : gX D (xcell g cI cB cZ cQ) xord g S s H locs) (hl : lv_has ls 8 [(0, .ref (g 0)), (1, .int x1), (2, .int x2), (3, .int x3), (4, .int x4), (5, .int x5), (6, .int x6), (7, .int x7)]) (hF : fX11_game_b89 N r40 r53 x1 x2 x3 x4 x5 x6 x7 S = some o) : W p l e (rmx 7 4) s m args below meth c H locs 3 18 (gEX below args s D (xtys cI cB cZ cQ) (xcell g cI cB cZ cQ) xord g 4 false o) (F0 m 89 ls []) := by
  unfold fX11_game_b89 at hF
  refine lv_iinc (v := (x4 + 1 : Int32)) (lv' := [(4, .int ((x4 + 1 : Int32))), (0, .ref (g 0)), (1, .int x1), (2, .int x2), (3, .int x3), (5, .int x5), (6, .int x6), (7, .int x7)]) C.1.1 C.1.2.1 dX11_game_89 hl (k := 4) rfl rfl (by decide) rfl (fun ls hl => ?_)
  refine lv_iload C.1.1 C.1.2.1 dX11_game_92 (lv_at hl 5 rfl) ?_
  refine lv_iconst (v := (-1)) C.1.1 C.1.2.1 dX11_game_94 (by decide) ?_
  refine lv_icmp_ne (tgt := 109) C.1.1 C.1.2.1 dX11_game_95 (by decide) (fun h_z => ?_) (fun h_z => ?_)
  · rw [if_neg h_z] at hF
    exact bX11_game_109 C O Tb K40 K53 X (lv_sub hl [1, 2, 3, 4, 0, 5, 6, 7] rfl) hF
  · rw [if_pos h_z] at hF
    exact bX11_game_98 C O Tb K40 K53 X (lv_sub hl [1, 2, 3, 4, 0, 6, 7] rfl) hF
noncomputable def fX11_game_b76 (N : Nat) (r40 : Int32 → Int32 → Int32 → Int32 → Int32 → Int32 → gS → Option (tR)) (r53 : Int32 → Int32 → Int32 → Int32 → Int32 → Int32 → Int32 → gS → Option (tR)) (x1 : Int32) (x2 : Int32) (x3 : Int32) (x4 : Int32) (x5 : Int32) (x6 : Int32) (x7 : Int32) (S : gS) : Option (tR) := bnd (fX11_isContent N x2 x7 x1 x6 S) fun q1 => (if q1.1 = 0 then fX11_game_b113 N r40 r53 x1 x2 x3 x4 x5 x6 x7 q1.2 else fX11_game_b89 N r40 r53 x1 x2 x3 x4 x5 x6 x7 q1.2)
theorem bX11_game_76 {N : Nat} {r40 : Int32 → Int32 → Int32 → Int32 → Int32 → Int32 → gS → Option (tR)} {r53 : Int32 → Int32 → Int32 → Int32 → Int32 → Int32 → Int32 → gS → Option (tR)} {x1 : Int32} {x2 : Int32} {x3 : Int32} {x4 : Int32} {x5 : Int32} {x6 : Int32} {x7 : Int32} {S : gS} {H : Heap} {locs : List Loc} {ls : Array Slot} {o : tR} (C : gC p s m args meth c cX11_game 8 RX11 ((some .int)) D (xtys cI cB cZ cQ) xord g Am) (O : tO l g cI cB cZ cQ Am aK aV) (Tb : ∀ x ∈ c.exceptionTable.toList, False) (K40 : ∀ (x1 : Int32) (x2 : Int32) (x3 : Int32) (x4 : Int32) (x5 : Int32) (x6 : Int32) (S : gS) (H : Heap) (locs : List Loc) (ls : Array Slot), gX D (xcell g cI cB cZ cQ) xord g S s H locs → lv_has ls 8 [(0, .ref (g 0)), (1, .int x1), (2, .int x2), (3, .int x3), (4, .int x4), (5, .int x5), (6, .int x6)] → r40 x1 x2 x3 x4 x5 x6 S = some o → W p l e (rmx 7 4) s m args below meth c H locs 3 18 (gEX below args s D (xtys cI cB cZ cQ) (xcell g cI cB cZ cQ) xord g 4 false o) (F0 m 40 ls [])) (K53 : ∀ (x1 : Int32) (x2 : Int32) (x3 : Int32) (x4 : Int32) (x5 : Int32) (x6 : Int32) (x7 : Int32) (S : gS) (H : Heap) (locs : List Loc) (ls : Array Slot), gX D (xcell g cI cB cZ cQ) xord g S s H locs → lv_has ls 8 [(0, .ref (g 0)), (1, .int x1), (2, .int x2), (3, .int x3), (4, .int x4), (5, .int x5), (6, .int x6), (7, .int x7)] → r53 x1 x2 x3 x4 x5 x6 x7 S = some o → W p l e (rmx 7 4) s m args below meth c H locs 3 18 (gEX below args s D (xtys cI cB cZ cQ) (xcell g cI cB cZ cQ) xord g 4 false o) (F0 m 53 ls [])) (X : gX D (xcell g cI cB cZ cQ) xord g S s H locs) (hl : lv_has ls 8 [(0, .ref (g 0)), (1, .int x1), (2, .int x2), (3, .int x3), (4, .int x4), (5, .int x5), (6, .int x6), (7, .int x7)]) (hF : fX11_game_b76 N r40 r53 x1 x2 x3 x4 x5 x6 x7 S = some o) : W p l e (rmx 7 4) s m args below meth c H locs 3 18 (gEX below args s D (xtys cI cB cZ cQ) (xcell g cI cB cZ cQ) xord g 4 false o) (F0 m 76 ls []) := by
  unfold fX11_game_b76 at hF
  refine lv_aload_n C.1.1 C.1.2.1 dX11_game_76 rfl (lv_at hl 0 rfl) ?_
  refine lv_iload_n C.1.1 C.1.2.1 dX11_game_77 rfl (lv_at hl 2 rfl) ?_
  refine lv_iload C.1.1 C.1.2.1 dX11_game_78 (lv_at hl 7 rfl) ?_
  refine lv_iload_n C.1.1 C.1.2.1 dX11_game_80 rfl (lv_at hl 1 rfl) ?_
  refine lv_iload C.1.1 C.1.2.1 dX11_game_81 (lv_at hl 6 rfl) ?_
  obtain ⟨q1, hq1, hF⟩ := bnd_some hF
  refine x_callVi C X (k := 0) xv_X11_349 (rfl : xk 0 = 11) rfl rfl (by decide) (kX11_isContent O.1.1 C.2.2.2.2.1 N x2 x7 x1 x6 S q1 hq1) (Nat.le_of_ble_eq_true rfl) (Nat.le_of_ble_eq_true rfl) (Nat.le_of_ble_eq_true rfl) (Nat.le_of_ble_eq_true rfl) rfl hl.1 rfl (Nat.le_of_ble_eq_true rfl) dX11_game_83 (fun H locs X => ?_)
  refine lv_if_eq (tgt := 113) C.1.1 C.1.2.1 dX11_game_86 (by decide) (fun h_z => ?_) (fun h_z => ?_)
  · rw [if_pos h_z] at hF
    exact bX11_game_113 C O Tb K40 K53 X (lv_sub hl [0, 1, 2, 3, 4, 5, 6, 7] rfl) hF
  · rw [if_neg h_z] at hF
    exact bX11_game_89 C O Tb K40 K53 X (lv_sub hl [0, 1, 2, 3, 4, 5, 6, 7] rfl) hF
noncomputable def fX11_game_b63 (N : Nat) (r40 : Int32 → Int32 → Int32 → Int32 → Int32 → Int32 → gS → Option (tR)) (r53 : Int32 → Int32 → Int32 → Int32 → Int32 → Int32 → Int32 → gS → Option (tR)) (x1 : Int32) (x2 : Int32) (x3 : Int32) (x4 : Int32) (x5 : Int32) (x6 : Int32) (x7 : Int32) (S : gS) : Option (tR) := bnd (fX11_isContent N x1 x6 x2 x7 S) fun q1 => (if q1.1 = 0 then fX11_game_b113 N r40 r53 x1 x2 x3 x4 x5 x6 x7 q1.2 else fX11_game_b76 N r40 r53 x1 x2 x3 x4 x5 x6 x7 q1.2)
theorem bX11_game_63 {N : Nat} {r40 : Int32 → Int32 → Int32 → Int32 → Int32 → Int32 → gS → Option (tR)} {r53 : Int32 → Int32 → Int32 → Int32 → Int32 → Int32 → Int32 → gS → Option (tR)} {x1 : Int32} {x2 : Int32} {x3 : Int32} {x4 : Int32} {x5 : Int32} {x6 : Int32} {x7 : Int32} {S : gS} {H : Heap} {locs : List Loc} {ls : Array Slot} {o : tR} (C : gC p s m args meth c cX11_game 8 RX11 ((some .int)) D (xtys cI cB cZ cQ) xord g Am) (O : tO l g cI cB cZ cQ Am aK aV) (Tb : ∀ x ∈ c.exceptionTable.toList, False) (K40 : ∀ (x1 : Int32) (x2 : Int32) (x3 : Int32) (x4 : Int32) (x5 : Int32) (x6 : Int32) (S : gS) (H : Heap) (locs : List Loc) (ls : Array Slot), gX D (xcell g cI cB cZ cQ) xord g S s H locs → lv_has ls 8 [(0, .ref (g 0)), (1, .int x1), (2, .int x2), (3, .int x3), (4, .int x4), (5, .int x5), (6, .int x6)] → r40 x1 x2 x3 x4 x5 x6 S = some o → W p l e (rmx 7 4) s m args below meth c H locs 3 18 (gEX below args s D (xtys cI cB cZ cQ) (xcell g cI cB cZ cQ) xord g 4 false o) (F0 m 40 ls [])) (K53 : ∀ (x1 : Int32) (x2 : Int32) (x3 : Int32) (x4 : Int32) (x5 : Int32) (x6 : Int32) (x7 : Int32) (S : gS) (H : Heap) (locs : List Loc) (ls : Array Slot), gX D (xcell g cI cB cZ cQ) xord g S s H locs → lv_has ls 8 [(0, .ref (g 0)), (1, .int x1), (2, .int x2), (3, .int x3), (4, .int x4), (5, .int x5), (6, .int x6), (7, .int x7)] → r53 x1 x2 x3 x4 x5 x6 x7 S = some o → W p l e (rmx 7 4) s m args below meth c H locs 3 18 (gEX below args s D (xtys cI cB cZ cQ) (xcell g cI cB cZ cQ) xord g 4 false o) (F0 m 53 ls [])) (X : gX D (xcell g cI cB cZ cQ) xord g S s H locs) (hl : lv_has ls 8 [(0, .ref (g 0)), (1, .int x1), (2, .int x2), (3, .int x3), (4, .int x4), (5, .int x5), (6, .int x6), (7, .int x7)]) (hF : fX11_game_b63 N r40 r53 x1 x2 x3 x4 x5 x6 x7 S = some o) : W p l e (rmx 7 4) s m args below meth c H locs 3 18 (gEX below args s D (xtys cI cB cZ cQ) (xcell g cI cB cZ cQ) xord g 4 false o) (F0 m 63 ls []) := by
  unfold fX11_game_b63 at hF
  refine lv_aload_n C.1.1 C.1.2.1 dX11_game_63 rfl (lv_at hl 0 rfl) ?_
  refine lv_iload_n C.1.1 C.1.2.1 dX11_game_64 rfl (lv_at hl 1 rfl) ?_
  refine lv_iload C.1.1 C.1.2.1 dX11_game_65 (lv_at hl 6 rfl) ?_
  refine lv_iload_n C.1.1 C.1.2.1 dX11_game_67 rfl (lv_at hl 2 rfl) ?_
  refine lv_iload C.1.1 C.1.2.1 dX11_game_68 (lv_at hl 7 rfl) ?_
  obtain ⟨q1, hq1, hF⟩ := bnd_some hF
  refine x_callVi C X (k := 0) xv_X11_349 (rfl : xk 0 = 11) rfl rfl (by decide) (kX11_isContent O.1.1 C.2.2.2.2.1 N x1 x6 x2 x7 S q1 hq1) (Nat.le_of_ble_eq_true rfl) (Nat.le_of_ble_eq_true rfl) (Nat.le_of_ble_eq_true rfl) (Nat.le_of_ble_eq_true rfl) rfl hl.1 rfl (Nat.le_of_ble_eq_true rfl) dX11_game_70 (fun H locs X => ?_)
  refine lv_if_eq (tgt := 113) C.1.1 C.1.2.1 dX11_game_73 (by decide) (fun h_z => ?_) (fun h_z => ?_)
  · rw [if_pos h_z] at hF
    exact bX11_game_113 C O Tb K40 K53 X (lv_sub hl [0, 1, 2, 3, 4, 5, 6, 7] rfl) hF
  · rw [if_neg h_z] at hF
    exact bX11_game_76 C O Tb K40 K53 X (lv_sub hl [0, 1, 2, 3, 4, 5, 6, 7] rfl) hF
noncomputable def fX11_game_b53 (N : Nat) (r40 : Int32 → Int32 → Int32 → Int32 → Int32 → Int32 → gS → Option (tR)) (r53 : Int32 → Int32 → Int32 → Int32 → Int32 → Int32 → Int32 → gS → Option (tR)) (x1 : Int32) (x2 : Int32) (x3 : Int32) (x4 : Int32) (x5 : Int32) (x6 : Int32) (x7 : Int32) (S : gS) : Option (tR) := bnd (fX11_mostChoice N x2 S) fun q1 => (if q1.1 < x7 then fX11_game_b119 N r40 x1 x2 x3 x4 x5 x6 q1.2 else fX11_game_b63 N r40 r53 x1 x2 x3 x4 x5 x6 x7 q1.2)
theorem bX11_game_53 {N : Nat} {r40 : Int32 → Int32 → Int32 → Int32 → Int32 → Int32 → gS → Option (tR)} {r53 : Int32 → Int32 → Int32 → Int32 → Int32 → Int32 → Int32 → gS → Option (tR)} {x1 : Int32} {x2 : Int32} {x3 : Int32} {x4 : Int32} {x5 : Int32} {x6 : Int32} {x7 : Int32} {S : gS} {H : Heap} {locs : List Loc} {ls : Array Slot} {o : tR} (C : gC p s m args meth c cX11_game 8 RX11 ((some .int)) D (xtys cI cB cZ cQ) xord g Am) (O : tO l g cI cB cZ cQ Am aK aV) (Tb : ∀ x ∈ c.exceptionTable.toList, False) (K40 : ∀ (x1 : Int32) (x2 : Int32) (x3 : Int32) (x4 : Int32) (x5 : Int32) (x6 : Int32) (S : gS) (H : Heap) (locs : List Loc) (ls : Array Slot), gX D (xcell g cI cB cZ cQ) xord g S s H locs → lv_has ls 8 [(0, .ref (g 0)), (1, .int x1), (2, .int x2), (3, .int x3), (4, .int x4), (5, .int x5), (6, .int x6)] → r40 x1 x2 x3 x4 x5 x6 S = some o → W p l e (rmx 7 4) s m args below meth c H locs 3 18 (gEX below args s D (xtys cI cB cZ cQ) (xcell g cI cB cZ cQ) xord g 4 false o) (F0 m 40 ls [])) (K53 : ∀ (x1 : Int32) (x2 : Int32) (x3 : Int32) (x4 : Int32) (x5 : Int32) (x6 : Int32) (x7 : Int32) (S : gS) (H : Heap) (locs : List Loc) (ls : Array Slot), gX D (xcell g cI cB cZ cQ) xord g S s H locs → lv_has ls 8 [(0, .ref (g 0)), (1, .int x1), (2, .int x2), (3, .int x3), (4, .int x4), (5, .int x5), (6, .int x6), (7, .int x7)] → r53 x1 x2 x3 x4 x5 x6 x7 S = some o → W p l e (rmx 7 4) s m args below meth c H locs 3 18 (gEX below args s D (xtys cI cB cZ cQ) (xcell g cI cB cZ cQ) xord g 4 false o) (F0 m 53 ls [])) (X : gX D (xcell g cI cB cZ cQ) xord g S s H locs) (hl : lv_has ls 8 [(0, .ref (g 0)), (1, .int x1), (2, .int x2), (3, .int x3), (4, .int x4), (5, .int x5), (6, .int x6), (7, .int x7)]) (hF : fX11_game_b53 N r40 r53 x1 x2 x3 x4 x5 x6 x7 S = some o) : W p l e (rmx 7 4) s m args below meth c H locs 3 18 (gEX below args s D (xtys cI cB cZ cQ) (xcell g cI cB cZ cQ) xord g 4 false o) (F0 m 53 ls []) := by
  unfold fX11_game_b53 at hF
  refine lv_iload C.1.1 C.1.2.1 dX11_game_53 (lv_at hl 7 rfl) ?_
  refine lv_aload_n C.1.1 C.1.2.1 dX11_game_55 rfl (lv_at hl 0 rfl) ?_
  refine lv_iload_n C.1.1 C.1.2.1 dX11_game_56 rfl (lv_at hl 2 rfl) ?_
  obtain ⟨q1, hq1, hF⟩ := bnd_some hF
  refine x_callVi C X (k := 0) xv_X11_346 (rfl : xk 0 = 11) rfl rfl (by decide) (kX11_mostChoice O.1.1 C.2.2.2.2.1 N x2 S q1 hq1) (Nat.le_of_ble_eq_true rfl) (Nat.le_of_ble_eq_true rfl) (Nat.le_of_ble_eq_true rfl) (Nat.le_of_ble_eq_true rfl) rfl hl.1 rfl (Nat.le_of_ble_eq_true rfl) dX11_game_57 (fun H locs X => ?_)
  refine lv_icmp_gt (tgt := 119) C.1.1 C.1.2.1 dX11_game_60 (by decide) (fun h_z => ?_) (fun h_z => ?_)
  · rw [if_pos h_z] at hF
    exact bX11_game_119 C O Tb K40 X (lv_sub hl [0, 1, 2, 3, 4, 5, 6] rfl) hF
  · rw [if_neg h_z] at hF
    exact bX11_game_63 C O Tb K40 K53 X (lv_sub hl [0, 1, 2, 3, 4, 5, 6, 7] rfl) hF
noncomputable def fX11_game_h53 (N : Nat) (r40 : Int32 → Int32 → Int32 → Int32 → Int32 → Int32 → gS → Option (tR)) : Nat → Int32 → Int32 → Int32 → Int32 → Int32 → Int32 → Int32 → gS → Option (tR)
  | 0, _, _, _, _, _, _, _, _ => none
  | n + 1, x1, x2, x3, x4, x5, x6, x7, S => fX11_game_b53 N r40 (fX11_game_h53 N r40 n) x1 x2 x3 x4 x5 x6 x7 S
theorem hX11_game_53 {N : Nat} {r40 : Int32 → Int32 → Int32 → Int32 → Int32 → Int32 → gS → Option (tR)} {o : tR} (C : gC p s m args meth c cX11_game 8 RX11 ((some .int)) D (xtys cI cB cZ cQ) xord g Am) (O : tO l g cI cB cZ cQ Am aK aV) (Tb : ∀ x ∈ c.exceptionTable.toList, False) (K40 : ∀ (x1 : Int32) (x2 : Int32) (x3 : Int32) (x4 : Int32) (x5 : Int32) (x6 : Int32) (S : gS) (H : Heap) (locs : List Loc) (ls : Array Slot), gX D (xcell g cI cB cZ cQ) xord g S s H locs → lv_has ls 8 [(0, .ref (g 0)), (1, .int x1), (2, .int x2), (3, .int x3), (4, .int x4), (5, .int x5), (6, .int x6)] → r40 x1 x2 x3 x4 x5 x6 S = some o → W p l e (rmx 7 4) s m args below meth c H locs 3 18 (gEX below args s D (xtys cI cB cZ cQ) (xcell g cI cB cZ cQ) xord g 4 false o) (F0 m 40 ls [])) : ∀ (n : Nat) (x1 : Int32) (x2 : Int32) (x3 : Int32) (x4 : Int32) (x5 : Int32) (x6 : Int32) (x7 : Int32) (S : gS) (H : Heap) (locs : List Loc) (ls : Array Slot), gX D (xcell g cI cB cZ cQ) xord g S s H locs → lv_has ls 8 [(0, .ref (g 0)), (1, .int x1), (2, .int x2), (3, .int x3), (4, .int x4), (5, .int x5), (6, .int x6), (7, .int x7)] → fX11_game_h53 N r40 n x1 x2 x3 x4 x5 x6 x7 S = some o → W p l e (rmx 7 4) s m args below meth c H locs 3 18 (gEX below args s D (xtys cI cB cZ cQ) (xcell g cI cB cZ cQ) xord g 4 false o) (F0 m 53 ls []) := by
  intro n
  induction n with
  | zero =>
    intro x1 x2 x3 x4 x5 x6 x7 S H locs ls X hl hF
    exact absurd (show (none : Option (tR)) = some o from hF) (by simp)
  | succ n ih =>
    intro x1 x2 x3 x4 x5 x6 x7 S H locs ls X hl hF
    have hF : fX11_game_b53 N r40 (fX11_game_h53 N r40 n) x1 x2 x3 x4 x5 x6 x7 S = some o := hF
    exact bX11_game_53 C O Tb K40 ih X hl hF
noncomputable def fX11_game_b50 (N : Nat) (r40 : Int32 → Int32 → Int32 → Int32 → Int32 → Int32 → gS → Option (tR)) (x1 : Int32) (x2 : Int32) (x3 : Int32) (x4 : Int32) (x5 : Int32) (x6 : Int32) (S : gS) : Option (tR) := fX11_game_h53 N r40 N x1 x2 x3 x4 x5 x6 0 S
theorem bX11_game_50 {N : Nat} {r40 : Int32 → Int32 → Int32 → Int32 → Int32 → Int32 → gS → Option (tR)} {x1 : Int32} {x2 : Int32} {x3 : Int32} {x4 : Int32} {x5 : Int32} {x6 : Int32} {S : gS} {H : Heap} {locs : List Loc} {ls : Array Slot} {o : tR} (C : gC p s m args meth c cX11_game 8 RX11 ((some .int)) D (xtys cI cB cZ cQ) xord g Am) (O : tO l g cI cB cZ cQ Am aK aV) (Tb : ∀ x ∈ c.exceptionTable.toList, False) (K40 : ∀ (x1 : Int32) (x2 : Int32) (x3 : Int32) (x4 : Int32) (x5 : Int32) (x6 : Int32) (S : gS) (H : Heap) (locs : List Loc) (ls : Array Slot), gX D (xcell g cI cB cZ cQ) xord g S s H locs → lv_has ls 8 [(0, .ref (g 0)), (1, .int x1), (2, .int x2), (3, .int x3), (4, .int x4), (5, .int x5), (6, .int x6)] → r40 x1 x2 x3 x4 x5 x6 S = some o → W p l e (rmx 7 4) s m args below meth c H locs 3 18 (gEX below args s D (xtys cI cB cZ cQ) (xcell g cI cB cZ cQ) xord g 4 false o) (F0 m 40 ls [])) (X : gX D (xcell g cI cB cZ cQ) xord g S s H locs) (hl : lv_has ls 8 [(0, .ref (g 0)), (1, .int x1), (2, .int x2), (3, .int x3), (4, .int x4), (5, .int x5), (6, .int x6)]) (hF : fX11_game_b50 N r40 x1 x2 x3 x4 x5 x6 S = some o) : W p l e (rmx 7 4) s m args below meth c H locs 3 18 (gEX below args s D (xtys cI cB cZ cQ) (xcell g cI cB cZ cQ) xord g 4 false o) (F0 m 50 ls []) := by
  unfold fX11_game_b50 at hF
  refine lv_iconst (v := 0) C.1.1 C.1.2.1 dX11_game_50 (by decide) ?_
  refine lv_istore (lv' := [(7, .int 0), (0, .ref (g 0)), (1, .int x1), (2, .int x2), (3, .int x3), (4, .int x4), (5, .int x5), (6, .int x6)]) C.1.1 C.1.2.1 dX11_game_51 hl (by decide) rfl (fun ls hl => ?_)
  exact hX11_game_53 C O Tb K40 N _ _ _ _ _ _ _ _ _ _ _ X (lv_sub hl [1, 2, 3, 4, 5, 6, 7, 0] rfl) hF
noncomputable def fX11_game_b40 (N : Nat) (r40 : Int32 → Int32 → Int32 → Int32 → Int32 → Int32 → gS → Option (tR)) (x1 : Int32) (x2 : Int32) (x3 : Int32) (x4 : Int32) (x5 : Int32) (x6 : Int32) (S : gS) : Option (tR) := bnd (fX11_mostChoice N x1 S) fun q1 => (if q1.1 < x6 then fX11_game_b125 N x3 x4 x5 q1.2 else fX11_game_b50 N r40 x1 x2 x3 x4 x5 x6 q1.2)
theorem bX11_game_40 {N : Nat} {r40 : Int32 → Int32 → Int32 → Int32 → Int32 → Int32 → gS → Option (tR)} {x1 : Int32} {x2 : Int32} {x3 : Int32} {x4 : Int32} {x5 : Int32} {x6 : Int32} {S : gS} {H : Heap} {locs : List Loc} {ls : Array Slot} {o : tR} (C : gC p s m args meth c cX11_game 8 RX11 ((some .int)) D (xtys cI cB cZ cQ) xord g Am) (O : tO l g cI cB cZ cQ Am aK aV) (Tb : ∀ x ∈ c.exceptionTable.toList, False) (K40 : ∀ (x1 : Int32) (x2 : Int32) (x3 : Int32) (x4 : Int32) (x5 : Int32) (x6 : Int32) (S : gS) (H : Heap) (locs : List Loc) (ls : Array Slot), gX D (xcell g cI cB cZ cQ) xord g S s H locs → lv_has ls 8 [(0, .ref (g 0)), (1, .int x1), (2, .int x2), (3, .int x3), (4, .int x4), (5, .int x5), (6, .int x6)] → r40 x1 x2 x3 x4 x5 x6 S = some o → W p l e (rmx 7 4) s m args below meth c H locs 3 18 (gEX below args s D (xtys cI cB cZ cQ) (xcell g cI cB cZ cQ) xord g 4 false o) (F0 m 40 ls [])) (X : gX D (xcell g cI cB cZ cQ) xord g S s H locs) (hl : lv_has ls 8 [(0, .ref (g 0)), (1, .int x1), (2, .int x2), (3, .int x3), (4, .int x4), (5, .int x5), (6, .int x6)]) (hF : fX11_game_b40 N r40 x1 x2 x3 x4 x5 x6 S = some o) : W p l e (rmx 7 4) s m args below meth c H locs 3 18 (gEX below args s D (xtys cI cB cZ cQ) (xcell g cI cB cZ cQ) xord g 4 false o) (F0 m 40 ls []) := by
  unfold fX11_game_b40 at hF
  refine lv_iload C.1.1 C.1.2.1 dX11_game_40 (lv_at hl 6 rfl) ?_
  refine lv_aload_n C.1.1 C.1.2.1 dX11_game_42 rfl (lv_at hl 0 rfl) ?_
  refine lv_iload_n C.1.1 C.1.2.1 dX11_game_43 rfl (lv_at hl 1 rfl) ?_
  obtain ⟨q1, hq1, hF⟩ := bnd_some hF
  refine x_callVi C X (k := 0) xv_X11_346 (rfl : xk 0 = 11) rfl rfl (by decide) (kX11_mostChoice O.1.1 C.2.2.2.2.1 N x1 S q1 hq1) (Nat.le_of_ble_eq_true rfl) (Nat.le_of_ble_eq_true rfl) (Nat.le_of_ble_eq_true rfl) (Nat.le_of_ble_eq_true rfl) rfl hl.1 rfl (Nat.le_of_ble_eq_true rfl) dX11_game_44 (fun H locs X => ?_)
  refine lv_icmp_gt (tgt := 125) C.1.1 C.1.2.1 dX11_game_47 (by decide) (fun h_z => ?_) (fun h_z => ?_)
  · rw [if_pos h_z] at hF
    exact bX11_game_125 C O Tb X (lv_sub hl [3, 4, 5] rfl) hF
  · rw [if_neg h_z] at hF
    exact bX11_game_50 C O Tb K40 X (lv_sub hl [0, 1, 2, 3, 4, 5, 6] rfl) hF
noncomputable def fX11_game_h40 (N : Nat) : Nat → Int32 → Int32 → Int32 → Int32 → Int32 → Int32 → gS → Option (tR)
  | 0, _, _, _, _, _, _, _ => none
  | n + 1, x1, x2, x3, x4, x5, x6, S => fX11_game_b40 N (fX11_game_h40 N n) x1 x2 x3 x4 x5 x6 S
theorem hX11_game_40 {N : Nat} {o : tR} (C : gC p s m args meth c cX11_game 8 RX11 ((some .int)) D (xtys cI cB cZ cQ) xord g Am) (O : tO l g cI cB cZ cQ Am aK aV) (Tb : ∀ x ∈ c.exceptionTable.toList, False) : ∀ (n : Nat) (x1 : Int32) (x2 : Int32) (x3 : Int32) (x4 : Int32) (x5 : Int32) (x6 : Int32) (S : gS) (H : Heap) (locs : List Loc) (ls : Array Slot), gX D (xcell g cI cB cZ cQ) xord g S s H locs → lv_has ls 8 [(0, .ref (g 0)), (1, .int x1), (2, .int x2), (3, .int x3), (4, .int x4), (5, .int x5), (6, .int x6)] → fX11_game_h40 N n x1 x2 x3 x4 x5 x6 S = some o → W p l e (rmx 7 4) s m args below meth c H locs 3 18 (gEX below args s D (xtys cI cB cZ cQ) (xcell g cI cB cZ cQ) xord g 4 false o) (F0 m 40 ls []) := by
  intro n
  induction n with
  | zero =>
    intro x1 x2 x3 x4 x5 x6 S H locs ls X hl hF
    exact absurd (show (none : Option (tR)) = some o from hF) (by simp)
  | succ n ih =>
    intro x1 x2 x3 x4 x5 x6 S H locs ls X hl hF
    have hF : fX11_game_b40 N (fX11_game_h40 N n) x1 x2 x3 x4 x5 x6 S = some o := hF
    exact bX11_game_40 C O Tb ih X hl hF
noncomputable def fX11_game_b31 (N : Nat) (x1 : Int32) (x2 : Int32) (x3 : Int32) (S : gS) : Option (tR) := fX11_game_h40 N N x1 x2 x3 0 ((-1)) 0 S
theorem bX11_game_31 {N : Nat} {x1 : Int32} {x2 : Int32} {x3 : Int32} {S : gS} {H : Heap} {locs : List Loc} {ls : Array Slot} {o : tR} (C : gC p s m args meth c cX11_game 8 RX11 ((some .int)) D (xtys cI cB cZ cQ) xord g Am) (O : tO l g cI cB cZ cQ Am aK aV) (Tb : ∀ x ∈ c.exceptionTable.toList, False) (X : gX D (xcell g cI cB cZ cQ) xord g S s H locs) (hl : lv_has ls 8 [(0, .ref (g 0)), (1, .int x1), (2, .int x2), (3, .int x3)]) (hF : fX11_game_b31 N x1 x2 x3 S = some o) : W p l e (rmx 7 4) s m args below meth c H locs 3 18 (gEX below args s D (xtys cI cB cZ cQ) (xcell g cI cB cZ cQ) xord g 4 false o) (F0 m 31 ls []) := by
  unfold fX11_game_b31 at hF
  refine lv_iconst (v := 0) C.1.1 C.1.2.1 dX11_game_31 (by decide) ?_
  refine lv_istore (lv' := [(4, .int 0), (0, .ref (g 0)), (1, .int x1), (2, .int x2), (3, .int x3)]) C.1.1 C.1.2.1 dX11_game_32 hl (by decide) rfl (fun ls hl => ?_)
  refine lv_iconst (v := (-1)) C.1.1 C.1.2.1 dX11_game_34 (by decide) ?_
  refine lv_istore (lv' := [(5, .int ((-1))), (4, .int 0), (0, .ref (g 0)), (1, .int x1), (2, .int x2), (3, .int x3)]) C.1.1 C.1.2.1 dX11_game_35 hl (by decide) rfl (fun ls hl => ?_)
  refine lv_iconst (v := 0) C.1.1 C.1.2.1 dX11_game_37 (by decide) ?_
  refine lv_istore (lv' := [(6, .int 0), (5, .int ((-1))), (4, .int 0), (0, .ref (g 0)), (1, .int x1), (2, .int x2), (3, .int x3)]) C.1.1 C.1.2.1 dX11_game_38 hl (by decide) rfl (fun ls hl => ?_)
  exact hX11_game_40 C O Tb N _ _ _ _ _ _ _ _ _ _ X (lv_sub hl [3, 4, 5, 6, 2, 1, 0] rfl) hF
noncomputable def fX11_game_b20 (N : Nat) (S : gS) : Option (tR) := some (2, 0, S)
theorem bX11_game_20 {N : Nat} {S : gS} {H : Heap} {locs : List Loc} {ls : Array Slot} {o : tR} (C : gC p s m args meth c cX11_game 8 RX11 ((some .int)) D (xtys cI cB cZ cQ) xord g Am) (O : tO l g cI cB cZ cQ Am aK aV) (Tb : ∀ x ∈ c.exceptionTable.toList, False) (X : gX D (xcell g cI cB cZ cQ) xord g S s H locs) (hl : lv_has ls 8 []) (hF : fX11_game_b20 N S = some o) : W p l e (rmx 7 4) s m args below meth c H locs 3 18 (gEX below args s D (xtys cI cB cZ cQ) (xcell g cI cB cZ cQ) xord g 4 false o) (F0 m 20 ls []) := by
  unfold fX11_game_b20 at hF
  cases hF
  exact t_newIW (ii := 27) C O Tb X hl.1 rfl dX11_game_20 dX11_game_23 dX11_game_24 dX11_game_27 dX11_game_30 (Nat.le_of_ble_eq_true rfl) (Nat.le_of_ble_eq_true rfl) (Nat.le_of_ble_eq_true rfl) (Nat.le_of_ble_eq_true rfl) (by decide) (by decide)
noncomputable def fX11_game_b0 (N : Nat) (x1 : Int32) (x2 : Int32) (x3 : Int32) (S : gS) : Option (tR) := bnx (fX11_needGuild N x1 S) fun q1 => (bnx (fX11_needGuild N x2 q1.2.2) fun q2 => (bnx (fX11_needWhat N x3 1 q2.2.2) fun q3 => (if x1 = x2 then fX11_game_b20 N q3.2.2 else fX11_game_b31 N x1 x2 x3 q3.2.2)))
theorem bX11_game_0 {N : Nat} {x1 : Int32} {x2 : Int32} {x3 : Int32} {S : gS} {H : Heap} {locs : List Loc} {ls : Array Slot} {o : tR} (C : gC p s m args meth c cX11_game 8 RX11 ((some .int)) D (xtys cI cB cZ cQ) xord g Am) (O : tO l g cI cB cZ cQ Am aK aV) (Tb : ∀ x ∈ c.exceptionTable.toList, False) (X : gX D (xcell g cI cB cZ cQ) xord g S s H locs) (hl : lv_has ls 8 [(0, .ref (g 0)), (1, .int x1), (2, .int x2), (3, .int x3)]) (hF : fX11_game_b0 N x1 x2 x3 S = some o) : W p l e (rmx 7 4) s m args below meth c H locs 0 0 (gEX below args s D (xtys cI cB cZ cQ) (xcell g cI cB cZ cQ) xord g 4 false o) (F0 m 0 ls []) := by
  unfold fX11_game_b0 at hF
  refine lv_aload_n C.1.1 C.1.2.1 dX11_game_0 rfl (lv_at hl 0 rfl) ?_
  refine lv_iload_n C.1.1 C.1.2.1 dX11_game_1 rfl (lv_at hl 1 rfl) ?_
  rcases (bnx_some hF).symm with ⟨q1, hq1, zq1, eo⟩ | ⟨q1, hq1, zq1, hF⟩
  · subst eo
    exact t_thr (x_preT C X xv_X11_191 rfl (kX11_needGuild O C.2.2.2.2.1 N x1 S q1 hq1) (Nat.le_of_ble_eq_true rfl) (Nat.le_of_ble_eq_true rfl) (Nat.le_of_ble_eq_true rfl) (Nat.le_of_ble_eq_true rfl) rfl hl.1 rfl (Nat.le_of_ble_eq_true rfl) dX11_game_2) zq1 C Tb X (by decide) (by decide)
  refine t_okv (x_preT C X xv_X11_191 rfl (kX11_needGuild O C.2.2.2.2.1 N x1 S q1 hq1) (Nat.le_of_ble_eq_true rfl) (Nat.le_of_ble_eq_true rfl) (Nat.le_of_ble_eq_true rfl) (Nat.le_of_ble_eq_true rfl) rfl hl.1 rfl (Nat.le_of_ble_eq_true rfl) dX11_game_2) zq1 X (fun H locs X => ?_)
  refine W.widen (k := 1) (n := 6) (by decide) (by decide) ?_
  refine lv_aload_n C.1.1 C.1.2.1 dX11_game_5 rfl (lv_at hl 0 rfl) ?_
  refine lv_iload_n C.1.1 C.1.2.1 dX11_game_6 rfl (lv_at hl 2 rfl) ?_
  rcases (bnx_some hF).symm with ⟨q2, hq2, zq2, eo⟩ | ⟨q2, hq2, zq2, hF⟩
  · subst eo
    exact t_thr (x_preT C X xv_X11_191 rfl (kX11_needGuild O C.2.2.2.2.1 N x2 q1.2.2 q2 hq2) (Nat.le_of_ble_eq_true rfl) (Nat.le_of_ble_eq_true rfl) (Nat.le_of_ble_eq_true rfl) (Nat.le_of_ble_eq_true rfl) rfl hl.1 rfl (Nat.le_of_ble_eq_true rfl) dX11_game_7) zq2 C Tb X (by decide) (by decide)
  refine t_okv (x_preT C X xv_X11_191 rfl (kX11_needGuild O C.2.2.2.2.1 N x2 q1.2.2 q2 hq2) (Nat.le_of_ble_eq_true rfl) (Nat.le_of_ble_eq_true rfl) (Nat.le_of_ble_eq_true rfl) (Nat.le_of_ble_eq_true rfl) rfl hl.1 rfl (Nat.le_of_ble_eq_true rfl) dX11_game_7) zq2 X (fun H locs X => ?_)
  refine W.widen (k := 2) (n := 12) (by decide) (by decide) ?_
  refine lv_iload_n C.1.1 C.1.2.1 dX11_game_10 rfl (lv_at hl 3 rfl) ?_
  refine lv_iconst (v := 1) C.1.1 C.1.2.1 dX11_game_11 (by decide) ?_
  rcases (bnx_some hF).symm with ⟨q3, hq3, zq3, eo⟩ | ⟨q3, hq3, zq3, hF⟩
  · subst eo
    exact t_thr (t_preS C X xv_X11_236 (kX11_needWhat O C.2.2.2.2.1 N x3 1 q2.2.2 q3 hq3) (Nat.le_of_ble_eq_true rfl) (Nat.le_of_ble_eq_true rfl) (Nat.le_of_ble_eq_true rfl) (Nat.le_of_ble_eq_true rfl) rfl hl.1 rfl (Nat.le_of_ble_eq_true rfl) dX11_game_12) zq3 C Tb X (by decide) (by decide)
  refine t_okv (t_preS C X xv_X11_236 (kX11_needWhat O C.2.2.2.2.1 N x3 1 q2.2.2 q3 hq3) (Nat.le_of_ble_eq_true rfl) (Nat.le_of_ble_eq_true rfl) (Nat.le_of_ble_eq_true rfl) (Nat.le_of_ble_eq_true rfl) rfl hl.1 rfl (Nat.le_of_ble_eq_true rfl) dX11_game_12) zq3 X (fun H locs X => ?_)
  refine W.widen (k := 3) (n := 18) (by decide) (by decide) ?_
  refine lv_iload_n C.1.1 C.1.2.1 dX11_game_15 rfl (lv_at hl 1 rfl) ?_
  refine lv_iload_n C.1.1 C.1.2.1 dX11_game_16 rfl (lv_at hl 2 rfl) ?_
  refine lv_icmp_ne (tgt := 31) C.1.1 C.1.2.1 dX11_game_17 (by decide) (fun h_z => ?_) (fun h_z => ?_)
  · rw [if_neg h_z] at hF
    exact bX11_game_31 C O Tb X (lv_sub hl [0, 1, 2, 3] rfl) hF
  · rw [if_pos h_z] at hF
    exact bX11_game_20 C O Tb X (lv_sub hl [] rfl) hF
noncomputable def fX11_game (N : Nat) (x1 : Int32) (x2 : Int32) (x3 : Int32) (S : gS) : Option (tR) := fX11_game_b0 N x1 x2 x3 S
theorem kX11_game {l : Launch} {D : va_G} {g : Nat → Nat} {cI cB cZ cQ : ClassId} {Am : (Nat → Prop) → State → Heap → Prop} {aK aV : Nat → Nat} (O : tO l g cI cB cZ cQ Am aK aV) (P : gAm Am) (N : Nat) (x1 : Int32) (x2 : Int32) (x3 : Int32) (S : gS) (o : tR) (hF : fX11_game N x1 x2 x3 S = some o) : gN l yX11_game cX11_game 8 ((some .int)) 7 4 D (xtys cI cB cZ cQ) (xcell g cI cB cZ cQ) xord g Am [.ref (g 0), .int x1, .int x2, .int x3] S false o :=
  gN_of P (by decide) (Nat.le_of_ble_eq_true rfl) (fun p e s m args below meth c ls C Tb X hl => bX11_game_0 C O Tb X (lv_sub hl [0, 1, 2, 3] rfl) hF)
-- X11.years
noncomputable def fX11_years_b119 (N : Nat) (S : gS) : Option (tR) := lt (xtw S) fun T1 => (bnd (fX7_hiredBits N 46 T1 S) fun q1 => (bnd (fJ6_bitCount_0f7a4 N q1.1 q1.2) fun q2 => (some (0, q2.1, q2.2))))
theorem bX11_years_119 {N : Nat} {S : gS} {H : Heap} {locs : List Loc} {ls : Array Slot} {o : tR} (C : gC p s m args meth c cX11_years 6 RX11 ((some .int)) D (xtys cI cB cZ cQ) xord g Am) (O : tO l g cI cB cZ cQ Am aK aV) (Tb : ∀ x ∈ c.exceptionTable.toList, False) (X : gX D (xcell g cI cB cZ cQ) xord g S s H locs) (hl : lv_has ls 6 [(0, .ref (g 0))]) (hF : fX11_years_b119 N S = some o) : W p l e (rmx 7 2) s m args below meth c H locs 2 12 (gEX below args s D (xtys cI cB cZ cQ) (xcell g cI cB cZ cQ) xord g 2 false o) (F0 m 119 ls []) := by
  unfold fX11_years_b119 at hF
  refine lv_aload_n C.1.1 C.1.2.1 dX11_years_119 rfl (lv_at hl 0 rfl) ?_
  refine xg_X11_29 C O.1.1 X (k := 0) rfl (j := 46) rfl dX11_years_120 ?_
  refine lv_aload_n C.1.1 C.1.2.1 dX11_years_123 rfl (lv_at hl 0 rfl) ?_
  obtain ⟨T1, eT1, hF⟩ := lt_some hF
  have hk_T1 := xtw_k eT1
  refine xg_X11_57 C O.1.1 X (T := T1) eT1 (k := 0) rfl dX11_years_124 ?_
  obtain ⟨q1, hq1, hF⟩ := bnd_some hF
  refine x_callVi C X (k := 46) xv_X11_124 (rfl : xk 46 = 7) rfl rfl (by decide) (kX7_hiredBits O.1.1 C.2.2.2.2.1 N 46 T1 (rfl : xk 46 = 7) (hk_T1 : xk T1 = 9) S q1 hq1) (Nat.le_of_ble_eq_true rfl) (Nat.le_of_ble_eq_true rfl) (Nat.le_of_ble_eq_true rfl) (Nat.le_of_ble_eq_true rfl) rfl hl.1 rfl (Nat.le_of_ble_eq_true rfl) dX11_years_127 (fun H locs X => ?_)
  obtain ⟨q2, hq2, hF⟩ := bnd_some hF
  refine g_callOi C X xv_X11_271 (kJ6_bitCount_0f7a4 (xs_sO O.1) C.2.2.2.2.1 N q1.1 q1.2 q2 hq2) (Nat.le_of_ble_eq_true rfl) (Nat.le_of_ble_eq_true rfl) (Nat.le_of_ble_eq_true rfl) (Nat.le_of_ble_eq_true rfl) rfl hl.1 rfl (Nat.le_of_ble_eq_true rfl) dX11_years_130 (fun H locs X => ?_)
  cases hF
  exact t_iret C X (by decide) (by decide) dX11_years_133
noncomputable def fX11_years_b107 (N : Nat) (S : gS) : Option (tR) := lt (xtw S) fun T1 => (bnd (fX7_purses N 46 T1 S) fun q1 => (some (0, q1.1, q1.2)))
theorem bX11_years_107 {N : Nat} {S : gS} {H : Heap} {locs : List Loc} {ls : Array Slot} {o : tR} (C : gC p s m args meth c cX11_years 6 RX11 ((some .int)) D (xtys cI cB cZ cQ) xord g Am) (O : tO l g cI cB cZ cQ Am aK aV) (Tb : ∀ x ∈ c.exceptionTable.toList, False) (X : gX D (xcell g cI cB cZ cQ) xord g S s H locs) (hl : lv_has ls 6 [(0, .ref (g 0))]) (hF : fX11_years_b107 N S = some o) : W p l e (rmx 7 2) s m args below meth c H locs 2 12 (gEX below args s D (xtys cI cB cZ cQ) (xcell g cI cB cZ cQ) xord g 2 false o) (F0 m 107 ls []) := by
  unfold fX11_years_b107 at hF
  refine lv_aload_n C.1.1 C.1.2.1 dX11_years_107 rfl (lv_at hl 0 rfl) ?_
  refine xg_X11_29 C O.1.1 X (k := 0) rfl (j := 46) rfl dX11_years_108 ?_
  refine lv_aload_n C.1.1 C.1.2.1 dX11_years_111 rfl (lv_at hl 0 rfl) ?_
  obtain ⟨T1, eT1, hF⟩ := lt_some hF
  have hk_T1 := xtw_k eT1
  refine xg_X11_57 C O.1.1 X (T := T1) eT1 (k := 0) rfl dX11_years_112 ?_
  obtain ⟨q1, hq1, hF⟩ := bnd_some hF
  refine x_callVi C X (k := 46) xv_X11_131 (rfl : xk 46 = 7) rfl rfl (by decide) (kX7_purses O.1.1 C.2.2.2.2.1 N 46 T1 (rfl : xk 46 = 7) (hk_T1 : xk T1 = 9) S q1 hq1) (Nat.le_of_ble_eq_true rfl) (Nat.le_of_ble_eq_true rfl) (Nat.le_of_ble_eq_true rfl) (Nat.le_of_ble_eq_true rfl) rfl hl.1 rfl (Nat.le_of_ble_eq_true rfl) dX11_years_115 (fun H locs X => ?_)
  cases hF
  exact t_iret C X (by decide) (by decide) dX11_years_118
noncomputable def fX11_years_b104 (N : Nat) (x4 : Int32) (S : gS) : Option (tR) := some (0, x4, S)
theorem bX11_years_104 {N : Nat} {x4 : Int32} {S : gS} {H : Heap} {locs : List Loc} {ls : Array Slot} {o : tR} (C : gC p s m args meth c cX11_years 6 RX11 ((some .int)) D (xtys cI cB cZ cQ) xord g Am) (O : tO l g cI cB cZ cQ Am aK aV) (Tb : ∀ x ∈ c.exceptionTable.toList, False) (X : gX D (xcell g cI cB cZ cQ) xord g S s H locs) (hl : lv_has ls 6 [(4, .int x4)]) (hF : fX11_years_b104 N x4 S = some o) : W p l e (rmx 7 2) s m args below meth c H locs 2 12 (gEX below args s D (xtys cI cB cZ cQ) (xcell g cI cB cZ cQ) xord g 2 false o) (F0 m 104 ls []) := by
  unfold fX11_years_b104 at hF
  refine lv_iload C.1.1 C.1.2.1 dX11_years_104 (lv_at hl 0 rfl) ?_
  cases hF
  exact t_iret C X (by decide) (by decide) dX11_years_106
noncomputable def fX11_years_b77 (N : Nat) (x3 : Int32) (x4 : Int32) (S : gS) : Option (tR) := if x3 = 0 then fX11_years_b104 N x4 S else if x3 = 1 then fX11_years_b107 N S else fX11_years_b119 N S
theorem bX11_years_77 {N : Nat} {x3 : Int32} {x4 : Int32} {S : gS} {H : Heap} {locs : List Loc} {ls : Array Slot} {o : tR} (C : gC p s m args meth c cX11_years 6 RX11 ((some .int)) D (xtys cI cB cZ cQ) xord g Am) (O : tO l g cI cB cZ cQ Am aK aV) (Tb : ∀ x ∈ c.exceptionTable.toList, False) (X : gX D (xcell g cI cB cZ cQ) xord g S s H locs) (hl : lv_has ls 6 [(0, .ref (g 0)), (3, .int x3), (4, .int x4)]) (hF : fX11_years_b77 N x3 x4 S = some o) : W p l e (rmx 7 2) s m args below meth c H locs 2 12 (gEX below args s D (xtys cI cB cZ cQ) (xcell g cI cB cZ cQ) xord g 2 false o) (F0 m 77 ls []) := by
  unfold fX11_years_b77 at hF
  refine lv_iload_n C.1.1 C.1.2.1 dX11_years_77 rfl (lv_at hl 1 rfl) ?_
  by_cases hz_0 : x3 = 0
  · rw [if_pos hz_0] at hF
    refine lv_lookup (off := 26) (tgt := 104) C.1.1 C.1.2.1 dX11_years_78 (by decide) (by rw [hz_0]; decide) (by decide) ?_
    exact bX11_years_104 C O Tb X (lv_sub hl [2] rfl) hF
  rw [if_neg hz_0] at hF
  by_cases hz_1 : x3 = 1
  · rw [if_pos hz_1] at hF
    refine lv_lookup (off := 29) (tgt := 107) C.1.1 C.1.2.1 dX11_years_78 (by decide) (by rw [hz_1]; decide) (by decide) ?_
    exact bX11_years_107 C O Tb X (lv_sub hl [0] rfl) hF
  rw [if_neg hz_1] at hF
  refine lv_lookup (off := 41) (tgt := 119) C.1.1 C.1.2.1 dX11_years_78 (by decide) (g_lsw2 hz_0 hz_1) (by decide) ?_
  exact bX11_years_119 C O Tb X (lv_sub hl [0] rfl) hF
noncomputable def fX11_years_b43 (N : Nat) (r37 : Int32 → Int32 → Int32 → Int32 → gS → Option (tR)) (x2 : Int32) (x3 : Int32) (x4 : Int32) (x5 : Int32) (S : gS) : Option (tR) := bnd (fX11_draw N 7 S) fun q1 => (bnd (fX11_chance N q1.1 q1.2) fun q2 => (bnd (fX11_draw N 4 q2.2) fun q3 => (bnd (fX11_passHour N 46 q3.1 q3.2) fun q4 => (r37 x2 x3 ((x4 + q4.1 : Int32)) ((x5 + 1 : Int32)) q4.2))))
theorem bX11_years_43 {N : Nat} {r37 : Int32 → Int32 → Int32 → Int32 → gS → Option (tR)} {x2 : Int32} {x3 : Int32} {x4 : Int32} {x5 : Int32} {S : gS} {H : Heap} {locs : List Loc} {ls : Array Slot} {o : tR} (C : gC p s m args meth c cX11_years 6 RX11 ((some .int)) D (xtys cI cB cZ cQ) xord g Am) (O : tO l g cI cB cZ cQ Am aK aV) (Tb : ∀ x ∈ c.exceptionTable.toList, False) (K37 : ∀ (x2 : Int32) (x3 : Int32) (x4 : Int32) (x5 : Int32) (S : gS) (H : Heap) (locs : List Loc) (ls : Array Slot), gX D (xcell g cI cB cZ cQ) xord g S s H locs → lv_has ls 6 [(0, .ref (g 0)), (2, .int x2), (3, .int x3), (4, .int x4), (5, .int x5)] → r37 x2 x3 x4 x5 S = some o → W p l e (rmx 7 2) s m args below meth c H locs 2 12 (gEX below args s D (xtys cI cB cZ cQ) (xcell g cI cB cZ cQ) xord g 2 false o) (F0 m 37 ls [])) (X : gX D (xcell g cI cB cZ cQ) xord g S s H locs) (hl : lv_has ls 6 [(0, .ref (g 0)), (2, .int x2), (3, .int x3), (4, .int x4), (5, .int x5)]) (hF : fX11_years_b43 N r37 x2 x3 x4 x5 S = some o) : W p l e (rmx 7 2) s m args below meth c H locs 2 12 (gEX below args s D (xtys cI cB cZ cQ) (xcell g cI cB cZ cQ) xord g 2 false o) (F0 m 43 ls []) := by
  unfold fX11_years_b43 at hF
  refine lv_aload_n C.1.1 C.1.2.1 dX11_years_43 rfl (lv_at hl 0 rfl) ?_
  refine lv_aload_n C.1.1 C.1.2.1 dX11_years_44 rfl (lv_at hl 0 rfl) ?_
  refine lv_bipush (v := 7) C.1.1 C.1.2.1 dX11_years_45 (by decide) ?_
  obtain ⟨q1, hq1, hF⟩ := bnd_some hF
  refine x_callVi C X (k := 0) xv_X11_357 (rfl : xk 0 = 11) rfl rfl (by decide) (kX11_draw O.1.1 C.2.2.2.2.1 N 7 S q1 hq1) (Nat.le_of_ble_eq_true rfl) (Nat.le_of_ble_eq_true rfl) (Nat.le_of_ble_eq_true rfl) (Nat.le_of_ble_eq_true rfl) rfl hl.1 rfl (Nat.le_of_ble_eq_true rfl) dX11_years_47 (fun H locs X => ?_)
  obtain ⟨q2, hq2, hF⟩ := bnd_some hF
  refine x_callV C X (k := 0) xv_X11_360 (rfl : xk 0 = 11) rfl rfl (by decide) (kX11_chance O.1.1 C.2.2.2.2.1 N q1.1 q1.2 q2 hq2) (Nat.le_of_ble_eq_true rfl) (Nat.le_of_ble_eq_true rfl) (Nat.le_of_ble_eq_true rfl) (Nat.le_of_ble_eq_true rfl) rfl hl.1 rfl (Nat.le_of_ble_eq_true rfl) dX11_years_50 (fun H locs X => ?_)
  refine lv_iload C.1.1 C.1.2.1 dX11_years_53 (lv_at hl 3 rfl) ?_
  refine lv_aload_n C.1.1 C.1.2.1 dX11_years_55 rfl (lv_at hl 0 rfl) ?_
  refine lv_aload_n C.1.1 C.1.2.1 dX11_years_56 rfl (lv_at hl 0 rfl) ?_
  refine xg_X11_29 C O.1.1 X (k := 0) rfl (j := 46) rfl dX11_years_57 ?_
  refine lv_aload_n C.1.1 C.1.2.1 dX11_years_60 rfl (lv_at hl 0 rfl) ?_
  refine lv_iconst (v := 4) C.1.1 C.1.2.1 dX11_years_61 (by decide) ?_
  obtain ⟨q3, hq3, hF⟩ := bnd_some hF
  refine x_callVi C X (k := 0) xv_X11_357 (rfl : xk 0 = 11) rfl rfl (by decide) (kX11_draw O.1.1 C.2.2.2.2.1 N 4 q2.2 q3 hq3) (Nat.le_of_ble_eq_true rfl) (Nat.le_of_ble_eq_true rfl) (Nat.le_of_ble_eq_true rfl) (Nat.le_of_ble_eq_true rfl) rfl hl.1 rfl (Nat.le_of_ble_eq_true rfl) dX11_years_62 (fun H locs X => ?_)
  obtain ⟨q4, hq4, hF⟩ := bnd_some hF
  refine x_callVi C X (k := 0) xv_X11_221 (rfl : xk 0 = 11) rfl rfl (by decide) (kX11_passHour O.1.1 C.2.2.2.2.1 N 46 q3.1 (rfl : xk 46 = 7) q3.2 q4 hq4) (Nat.le_of_ble_eq_true rfl) (Nat.le_of_ble_eq_true rfl) (Nat.le_of_ble_eq_true rfl) (Nat.le_of_ble_eq_true rfl) rfl hl.1 rfl (Nat.le_of_ble_eq_true rfl) dX11_years_65 (fun H locs X => ?_)
  refine lv_iadd C.1.1 C.1.2.1 dX11_years_68 ?_
  refine lv_istore (lv' := [(4, .int ((x4 + q4.1 : Int32))), (0, .ref (g 0)), (2, .int x2), (3, .int x3), (5, .int x5)]) C.1.1 C.1.2.1 dX11_years_69 hl (by decide) rfl (fun ls hl => ?_)
  refine lv_iinc (v := (x5 + 1 : Int32)) (lv' := [(5, .int ((x5 + 1 : Int32))), (4, .int ((x4 + q4.1 : Int32))), (0, .ref (g 0)), (2, .int x2), (3, .int x3)]) C.1.1 C.1.2.1 dX11_years_71 hl (k := 4) rfl rfl (by decide) rfl (fun ls hl => ?_)
  refine lv_goto (tgt := 37) C.1.1 C.1.2.1 dX11_years_74 (by decide) ?_
  exact K37 _ _ _ _ _ _ _ _ X (lv_sub hl [2, 3, 4, 1, 0] rfl) hF
noncomputable def fX11_years_b37 (N : Nat) (r37 : Int32 → Int32 → Int32 → Int32 → gS → Option (tR)) (x2 : Int32) (x3 : Int32) (x4 : Int32) (x5 : Int32) (S : gS) : Option (tR) := if x2 ≤ x5 then fX11_years_b77 N x3 x4 S else fX11_years_b43 N r37 x2 x3 x4 x5 S
theorem bX11_years_37 {N : Nat} {r37 : Int32 → Int32 → Int32 → Int32 → gS → Option (tR)} {x2 : Int32} {x3 : Int32} {x4 : Int32} {x5 : Int32} {S : gS} {H : Heap} {locs : List Loc} {ls : Array Slot} {o : tR} (C : gC p s m args meth c cX11_years 6 RX11 ((some .int)) D (xtys cI cB cZ cQ) xord g Am) (O : tO l g cI cB cZ cQ Am aK aV) (Tb : ∀ x ∈ c.exceptionTable.toList, False) (K37 : ∀ (x2 : Int32) (x3 : Int32) (x4 : Int32) (x5 : Int32) (S : gS) (H : Heap) (locs : List Loc) (ls : Array Slot), gX D (xcell g cI cB cZ cQ) xord g S s H locs → lv_has ls 6 [(0, .ref (g 0)), (2, .int x2), (3, .int x3), (4, .int x4), (5, .int x5)] → r37 x2 x3 x4 x5 S = some o → W p l e (rmx 7 2) s m args below meth c H locs 2 12 (gEX below args s D (xtys cI cB cZ cQ) (xcell g cI cB cZ cQ) xord g 2 false o) (F0 m 37 ls [])) (X : gX D (xcell g cI cB cZ cQ) xord g S s H locs) (hl : lv_has ls 6 [(0, .ref (g 0)), (2, .int x2), (3, .int x3), (4, .int x4), (5, .int x5)]) (hF : fX11_years_b37 N r37 x2 x3 x4 x5 S = some o) : W p l e (rmx 7 2) s m args below meth c H locs 2 12 (gEX below args s D (xtys cI cB cZ cQ) (xcell g cI cB cZ cQ) xord g 2 false o) (F0 m 37 ls []) := by
  unfold fX11_years_b37 at hF
  refine lv_iload C.1.1 C.1.2.1 dX11_years_37 (lv_at hl 4 rfl) ?_
  refine lv_iload_n C.1.1 C.1.2.1 dX11_years_39 rfl (lv_at hl 1 rfl) ?_
  refine lv_icmp_ge (tgt := 77) C.1.1 C.1.2.1 dX11_years_40 (by decide) (fun h_z => ?_) (fun h_z => ?_)
  · rw [if_pos h_z] at hF
    exact bX11_years_77 C O Tb X (lv_sub hl [0, 2, 3] rfl) hF
  · rw [if_neg h_z] at hF
    exact bX11_years_43 C O Tb K37 X (lv_sub hl [0, 1, 2, 3, 4] rfl) hF
noncomputable def fX11_years_h37 (N : Nat) : Nat → Int32 → Int32 → Int32 → Int32 → gS → Option (tR)
  | 0, _, _, _, _, _ => none
  | n + 1, x2, x3, x4, x5, S => fX11_years_b37 N (fX11_years_h37 N n) x2 x3 x4 x5 S
theorem hX11_years_37 {N : Nat} {o : tR} (C : gC p s m args meth c cX11_years 6 RX11 ((some .int)) D (xtys cI cB cZ cQ) xord g Am) (O : tO l g cI cB cZ cQ Am aK aV) (Tb : ∀ x ∈ c.exceptionTable.toList, False) : ∀ (n : Nat) (x2 : Int32) (x3 : Int32) (x4 : Int32) (x5 : Int32) (S : gS) (H : Heap) (locs : List Loc) (ls : Array Slot), gX D (xcell g cI cB cZ cQ) xord g S s H locs → lv_has ls 6 [(0, .ref (g 0)), (2, .int x2), (3, .int x3), (4, .int x4), (5, .int x5)] → fX11_years_h37 N n x2 x3 x4 x5 S = some o → W p l e (rmx 7 2) s m args below meth c H locs 2 12 (gEX below args s D (xtys cI cB cZ cQ) (xcell g cI cB cZ cQ) xord g 2 false o) (F0 m 37 ls []) := by
  intro n
  induction n with
  | zero =>
    intro x2 x3 x4 x5 S H locs ls X hl hF
    exact absurd (show (none : Option (tR)) = some o from hF) (by simp)
  | succ n ih =>
    intro x2 x3 x4 x5 S H locs ls X hl hF
    have hF : fX11_years_b37 N (fX11_years_h37 N n) x2 x3 x4 x5 S = some o := hF
    exact bX11_years_37 C O Tb ih X hl hF
noncomputable def fX11_years_b0 (N : Nat) (x1 : Int32) (x2 : Int32) (x3 : Int32) (S : gS) : Option (tR) := bnx (fX11_needWhat N x3 2 S) fun q1 => (bnx (fX11_needWithin N x2 0 60 q1.2.2) fun q2 => (bnd (fX7_copy N 46 21 q2.2.2) fun q3 => (lt (sU q3.2 0 9 x1) fun S1 => (fX11_years_h37 N N x2 x3 0 0 S1))))
theorem bX11_years_0 {N : Nat} {x1 : Int32} {x2 : Int32} {x3 : Int32} {S : gS} {H : Heap} {locs : List Loc} {ls : Array Slot} {o : tR} (C : gC p s m args meth c cX11_years 6 RX11 ((some .int)) D (xtys cI cB cZ cQ) xord g Am) (O : tO l g cI cB cZ cQ Am aK aV) (Tb : ∀ x ∈ c.exceptionTable.toList, False) (X : gX D (xcell g cI cB cZ cQ) xord g S s H locs) (hl : lv_has ls 6 [(0, .ref (g 0)), (1, .int x1), (2, .int x2), (3, .int x3)]) (hF : fX11_years_b0 N x1 x2 x3 S = some o) : W p l e (rmx 7 2) s m args below meth c H locs 0 0 (gEX below args s D (xtys cI cB cZ cQ) (xcell g cI cB cZ cQ) xord g 2 false o) (F0 m 0 ls []) := by
  unfold fX11_years_b0 at hF
  refine lv_iload_n C.1.1 C.1.2.1 dX11_years_0 rfl (lv_at hl 3 rfl) ?_
  refine lv_iconst (v := 2) C.1.1 C.1.2.1 dX11_years_1 (by decide) ?_
  rcases (bnx_some hF).symm with ⟨q1, hq1, zq1, eo⟩ | ⟨q1, hq1, zq1, hF⟩
  · subst eo
    exact t_thr (t_preS C X xv_X11_236 (kX11_needWhat O C.2.2.2.2.1 N x3 2 S q1 hq1) (Nat.le_of_ble_eq_true rfl) (Nat.le_of_ble_eq_true rfl) (Nat.le_of_ble_eq_true rfl) (Nat.le_of_ble_eq_true rfl) rfl hl.1 rfl (Nat.le_of_ble_eq_true rfl) dX11_years_2) zq1 C Tb X (by decide) (by decide)
  refine t_okv (t_preS C X xv_X11_236 (kX11_needWhat O C.2.2.2.2.1 N x3 2 S q1 hq1) (Nat.le_of_ble_eq_true rfl) (Nat.le_of_ble_eq_true rfl) (Nat.le_of_ble_eq_true rfl) (Nat.le_of_ble_eq_true rfl) rfl hl.1 rfl (Nat.le_of_ble_eq_true rfl) dX11_years_2) zq1 X (fun H locs X => ?_)
  refine W.widen (k := 1) (n := 6) (by decide) (by decide) ?_
  refine lv_iload_n C.1.1 C.1.2.1 dX11_years_5 rfl (lv_at hl 2 rfl) ?_
  refine lv_iconst (v := 0) C.1.1 C.1.2.1 dX11_years_6 (by decide) ?_
  refine lv_bipush (v := 60) C.1.1 C.1.2.1 dX11_years_7 (by decide) ?_
  rcases (bnx_some hF).symm with ⟨q2, hq2, zq2, eo⟩ | ⟨q2, hq2, zq2, hF⟩
  · subst eo
    exact t_thr (t_preS C X xv_X11_239 (kX11_needWithin O C.2.2.2.2.1 N x2 0 60 q1.2.2 q2 hq2) (Nat.le_of_ble_eq_true rfl) (Nat.le_of_ble_eq_true rfl) (Nat.le_of_ble_eq_true rfl) (Nat.le_of_ble_eq_true rfl) rfl hl.1 rfl (Nat.le_of_ble_eq_true rfl) dX11_years_9) zq2 C Tb X (by decide) (by decide)
  refine t_okv (t_preS C X xv_X11_239 (kX11_needWithin O C.2.2.2.2.1 N x2 0 60 q1.2.2 q2 hq2) (Nat.le_of_ble_eq_true rfl) (Nat.le_of_ble_eq_true rfl) (Nat.le_of_ble_eq_true rfl) (Nat.le_of_ble_eq_true rfl) rfl hl.1 rfl (Nat.le_of_ble_eq_true rfl) dX11_years_9) zq2 X (fun H locs X => ?_)
  refine W.widen (k := 2) (n := 12) (by decide) (by decide) ?_
  refine lv_aload_n C.1.1 C.1.2.1 dX11_years_12 rfl (lv_at hl 0 rfl) ?_
  refine xg_X11_29 C O.1.1 X (k := 0) rfl (j := 46) rfl dX11_years_13 ?_
  refine lv_aload_n C.1.1 C.1.2.1 dX11_years_16 rfl (lv_at hl 0 rfl) ?_
  refine xg_X11_19 C O.1.1 X (k := 0) rfl (j := 20) rfl dX11_years_17 ?_
  refine xg_X11_105 C O.1.1 X (k := 20) rfl (j := 21) rfl dX11_years_20 ?_
  obtain ⟨q3, hq3, hF⟩ := bnd_some hF
  refine x_callV C X (k := 46) xv_X11_353 (rfl : xk 46 = 7) rfl rfl (by decide) (kX7_copy O.1.1 C.2.2.2.2.1 N 46 21 (rfl : xk 46 = 7) (rfl : xk 21 = 7) q2.2.2 q3 hq3) (Nat.le_of_ble_eq_true rfl) (Nat.le_of_ble_eq_true rfl) (Nat.le_of_ble_eq_true rfl) (Nat.le_of_ble_eq_true rfl) rfl hl.1 rfl (Nat.le_of_ble_eq_true rfl) dX11_years_23 (fun H locs X => ?_)
  refine lv_aload_n C.1.1 C.1.2.1 dX11_years_26 rfl (lv_at hl 0 rfl) ?_
  refine lv_iload_n C.1.1 C.1.2.1 dX11_years_27 rfl (lv_at hl 1 rfl) ?_
  obtain ⟨S1, eS1, hF⟩ := lt_some hF
  refine xp_X11_65 C O.1.1 X (k := 0) rfl eS1 dX11_years_28 (fun H locs X => ?_)
  refine lv_iconst (v := 0) C.1.1 C.1.2.1 dX11_years_31 (by decide) ?_
  refine lv_istore (lv' := [(4, .int 0), (0, .ref (g 0)), (1, .int x1), (2, .int x2), (3, .int x3)]) C.1.1 C.1.2.1 dX11_years_32 hl (by decide) rfl (fun ls hl => ?_)
  refine lv_iconst (v := 0) C.1.1 C.1.2.1 dX11_years_34 (by decide) ?_
  refine lv_istore (lv' := [(5, .int 0), (4, .int 0), (0, .ref (g 0)), (1, .int x1), (2, .int x2), (3, .int x3)]) C.1.1 C.1.2.1 dX11_years_35 hl (by decide) rfl (fun ls hl => ?_)
  exact hX11_years_37 C O Tb N _ _ _ _ _ _ _ _ X (lv_sub hl [2, 4, 5, 1, 0] rfl) hF
noncomputable def fX11_years (N : Nat) (x1 : Int32) (x2 : Int32) (x3 : Int32) (S : gS) : Option (tR) := fX11_years_b0 N x1 x2 x3 S
theorem kX11_years {l : Launch} {D : va_G} {g : Nat → Nat} {cI cB cZ cQ : ClassId} {Am : (Nat → Prop) → State → Heap → Prop} {aK aV : Nat → Nat} (O : tO l g cI cB cZ cQ Am aK aV) (P : gAm Am) (N : Nat) (x1 : Int32) (x2 : Int32) (x3 : Int32) (S : gS) (o : tR) (hF : fX11_years N x1 x2 x3 S = some o) : gN l yX11_years cX11_years 6 ((some .int)) 7 2 D (xtys cI cB cZ cQ) (xcell g cI cB cZ cQ) xord g Am [.ref (g 0), .int x1, .int x2, .int x3] S false o :=
  gN_of P (by decide) (Nat.le_of_ble_eq_true rfl) (fun p e s m args below meth c ls C Tb X hl => bX11_years_0 C O Tb X (lv_sub hl [0, 1, 2, 3] rfl) hF)
end
