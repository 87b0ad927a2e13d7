/-! part 18.xt -/
section
/-! the class's methods that may throw (printed by wip/whole/mkxt.py) -/
section
variable {p : Program} {l : Launch} {e : Env} {s : State} {m : MethodId} {args : Array Value} {below : List Frame} {meth : Method} {c : Code} {D : va_G} {g : Nat → Nat} {cI cB cZ cQ : ClassId} {Am : (Nat → Prop) → State → Heap → Prop} {aK aV : Nat → Nat}
-- X11.port
noncomputable def fX11_port_b63 (N : Nat) (S : gS) : Option (tR) := lt (xtw S) fun T1 => (lt (xdr S) fun T2 => (lt (sU S 0 7 (if T2 = 72 then 0 else 1)) fun S1 => (lt (sU S1 1 1 (if T1 = 4 then 0 else 1)) fun S2 => (lt (xtw S2) fun T3 => (bnd (fX1_begin N 20 T3 S2) fun q1 => (lt (sU q1.2 0 8 0) fun S3 => (some (0, 0, S3))))))))
theorem bX11_port_63 {N : Nat} {S : gS} {H : Heap} {locs : List Loc} {ls : Array Slot} {o : tR} (C : gC p s m args meth c cX11_port 4 RX11 ((some .int)) D (xtys cI cB cZ cQ) xord g Am) (O : tO l g cI cB cZ cQ Am aK aV) (Tb : ∀ x ∈ c.exceptionTable.toList, False) (X : gX D (xcell g cI cB cZ cQ) xord g S s H locs) (hl : lv_has ls 4 [(0, .ref (g 0))]) (hF : fX11_port_b63 N S = some o) : W p l e (rmx 72 1) s m args below meth c H locs 0 0 (gEX below args s D (xtys cI cB cZ cQ) (xcell g cI cB cZ cQ) xord g 1 false o) (F0 m 63 ls []) := by
  unfold fX11_port_b63 at hF
  refine lv_aload_n C.1.1 C.1.2.1 dX11_port_63 rfl (lv_at hl 0 rfl) ?_
  obtain ⟨T1, eT1, hF⟩ := lt_some hF
  have hk_T1 := xtw_k eT1
  refine xg_X11_57 C O.1.1 X (T := T1) eT1 (k := 0) rfl dX11_port_64 ?_
  refine lv_astore_n (lv' := [(3, .ref (g T1)), (0, .ref (g 0))]) C.1.1 C.1.2.1 dX11_port_67 rfl hl (by decide) rfl (fun ls hl => ?_)
  refine lv_aload_n C.1.1 C.1.2.1 dX11_port_68 rfl (lv_at hl 1 rfl) ?_
  refine lv_aload_n C.1.1 C.1.2.1 dX11_port_69 rfl (lv_at hl 1 rfl) ?_
  refine xg_X11_12 C O.1.1 X (k := 0) rfl (j := 1) rfl dX11_port_70 ?_
  obtain ⟨T2, eT2, hF⟩ := lt_some hF
  have hk_T2 := xdr_k eT2
  refine xg_X11_96 C O.1.1 X (T := T2) eT2 (k := 1) rfl dX11_port_73 ?_
  obtain ⟨S1, eS1, hF⟩ := lt_some hF
  refine xp_X11_57 C O.1.1 X (T := T2) hk_T2 (k := 0) rfl eS1 dX11_port_76 (fun H locs X => ?_)
  refine lv_aload_n C.1.1 C.1.2.1 dX11_port_79 rfl (lv_at hl 1 rfl) ?_
  refine xg_X11_12 C O.1.1 X (k := 0) rfl (j := 1) rfl dX11_port_80 ?_
  refine lv_aload_n C.1.1 C.1.2.1 dX11_port_83 rfl (lv_at hl 0 rfl) ?_
  obtain ⟨S2, eS2, hF⟩ := lt_some hF
  refine xp_X11_96 C O.1.1 X (T := T1) hk_T1 (k := 1) rfl eS2 dX11_port_84 (fun H locs X => ?_)
  refine lv_aload_n C.1.1 C.1.2.1 dX11_port_87 rfl (lv_at hl 1 rfl) ?_
  refine xg_X11_19 C O.1.1 X (k := 0) rfl (j := 20) rfl dX11_port_88 ?_
  refine lv_aload_n C.1.1 C.1.2.1 dX11_port_91 rfl (lv_at hl 1 rfl) ?_
  obtain ⟨T3, eT3, hF⟩ := lt_some hF
  have hk_T3 := xtw_k eT3
  refine xg_X11_57 C O.1.1 X (T := T3) eT3 (k := 0) rfl dX11_port_92 ?_
  obtain ⟨q1, hq1, hF⟩ := bnd_some hF
  refine x_callV C X (k := 20) xv_X11_98 (rfl : xk 20 = 1) rfl rfl (by decide) (kX1_begin O.1.1 C.2.2.2.2.1 N 20 T3 (rfl : xk 20 = 1) (hk_T3 : xk T3 = 9) S2 q1 hq1) (Nat.le_of_ble_eq_true rfl) (Nat.le_of_ble_eq_true rfl) (Nat.le_of_ble_eq_true rfl) (Nat.le_of_ble_eq_true rfl) rfl hl.1 rfl (Nat.le_of_ble_eq_true rfl) dX11_port_95 (fun H locs X => ?_)
  refine lv_aload_n C.1.1 C.1.2.1 dX11_port_98 rfl (lv_at hl 1 rfl) ?_
  refine lv_iconst (v := 0) C.1.1 C.1.2.1 dX11_port_99 (by decide) ?_
  obtain ⟨S3, eS3, hF⟩ := lt_some hF
  refine xp_X11_61 C O.1.1 X (k := 0) rfl (by decide) eS3 dX11_port_100 (fun H locs X => ?_)
  refine lv_iconst (v := 0) C.1.1 C.1.2.1 dX11_port_103 (by decide) ?_
  cases hF
  exact t_iret (x := 0) C X (by decide) (by decide) dX11_port_104
noncomputable def fX11_port_b52 (N : Nat) (x2 : Int32) (S : gS) : Option (tR) := bnd (fX1_refuse N 20 0 S) fun q1 => (some (0, x2, q1.2))
theorem bX11_port_52 {N : Nat} {x2 : Int32} {S : gS} {H : Heap} {locs : List Loc} {ls : Array Slot} {o : tR} (C : gC p s m args meth c cX11_port 4 RX11 ((some .int)) D (xtys cI cB cZ cQ) xord g Am) (O : tO l g cI cB cZ cQ Am aK aV) (Tb : ∀ x ∈ c.exceptionTable.toList, False) (X : gX D (xcell g cI cB cZ cQ) xord g S s H locs) (hl : lv_has ls 4 [(0, .ref (g 0)), (2, .int x2)]) (hF : fX11_port_b52 N x2 S = some o) : W p l e (rmx 72 1) s m args below meth c H locs 0 0 (gEX below args s D (xtys cI cB cZ cQ) (xcell g cI cB cZ cQ) xord g 1 false o) (F0 m 52 ls []) := by
  unfold fX11_port_b52 at hF
  refine lv_aload_n C.1.1 C.1.2.1 dX11_port_52 rfl (lv_at hl 0 rfl) ?_
  refine xg_X11_19 C O.1.1 X (k := 0) rfl (j := 20) rfl dX11_port_53 ?_
  refine lv_iconst (v := 0) C.1.1 C.1.2.1 dX11_port_56 (by decide) ?_
  obtain ⟨q1, hq1, hF⟩ := bnd_some hF
  refine x_callVi C X (k := 20) xv_X11_93 (rfl : xk 20 = 1) rfl rfl (by decide) (kX1_refuse O.1.1 C.2.2.2.2.1 N 20 0 (rfl : xk 20 = 1) S q1 hq1) (Nat.le_of_ble_eq_true rfl) (Nat.le_of_ble_eq_true rfl) (Nat.le_of_ble_eq_true rfl) (Nat.le_of_ble_eq_true rfl) rfl hl.1 rfl (Nat.le_of_ble_eq_true rfl) dX11_port_57 (fun H locs X => ?_)
  refine lv_pop C.1.1 C.1.2.1 dX11_port_60 rfl ?_
  refine lv_iload_n C.1.1 C.1.2.1 dX11_port_61 rfl (lv_at hl 1 rfl) ?_
  cases hF
  exact t_iret C X (by decide) (by decide) dX11_port_62
noncomputable def fX11_port_b28 (N : Nat) (x1 : Int32) (S : gS) : Option (tR) := bnd (fX3_read N x1 S) fun q1 => (lt (sU q1.2 2 1 0) fun S1 => (if q1.1 = 0 then fX11_port_b63 N S1 else fX11_port_b52 N q1.1 S1))
theorem bX11_port_28 {N : Nat} {x1 : Int32} {S : gS} {H : Heap} {locs : List Loc} {ls : Array Slot} {o : tR} (C : gC p s m args meth c cX11_port 4 RX11 ((some .int)) D (xtys cI cB cZ cQ) xord g Am) (O : tO l g cI cB cZ cQ Am aK aV) (Tb : ∀ x ∈ c.exceptionTable.toList, False) (X : gX D (xcell g cI cB cZ cQ) xord g S s H locs) (hl : lv_has ls 4 [(0, .ref (g 0)), (1, .int x1)]) (hF : fX11_port_b28 N x1 S = some o) : W p l e (rmx 72 1) s m args below meth c H locs 0 0 (gEX below args s D (xtys cI cB cZ cQ) (xcell g cI cB cZ cQ) xord g 1 false o) (F0 m 28 ls []) := by
  unfold fX11_port_b28 at hF
  refine lv_aload_n C.1.1 C.1.2.1 dX11_port_28 rfl (lv_at hl 0 rfl) ?_
  refine xg_X11_12 C O.1.1 X (k := 0) rfl (j := 1) rfl dX11_port_29 ?_
  refine lv_iload_n C.1.1 C.1.2.1 dX11_port_32 rfl (lv_at hl 1 rfl) ?_
  obtain ⟨q1, hq1, hF⟩ := bnd_some hF
  refine x_callVi C X (k := 1) xv_X11_89 (rfl : xk 1 = 3) rfl rfl (by decide) (kX3_read O.1 C.2.2.2.2.1 N x1 S q1 hq1) (Nat.le_of_ble_eq_true rfl) (Nat.le_of_ble_eq_true rfl) (Nat.le_of_ble_eq_true rfl) (Nat.le_of_ble_eq_true rfl) rfl hl.1 rfl (Nat.le_of_ble_eq_true rfl) dX11_port_33 (fun H locs X => ?_)
  refine lv_istore_n (lv' := [(2, .int q1.1), (0, .ref (g 0)), (1, .int x1)]) C.1.1 C.1.2.1 dX11_port_36 rfl hl (by decide) rfl (fun ls hl => ?_)
  refine lv_aload_n C.1.1 C.1.2.1 dX11_port_37 rfl (lv_at hl 1 rfl) ?_
  refine xg_X11_12 C O.1.1 X (k := 0) rfl (j := 1) rfl dX11_port_38 ?_
  refine xg_X11_69 C O.1.1 X (k := 1) rfl (j := 2) rfl dX11_port_41 ?_
  refine lv_iconst (v := 0) C.1.1 C.1.2.1 dX11_port_44 (by decide) ?_
  obtain ⟨S1, eS1, hF⟩ := lt_some hF
  refine xp_X11_73 C O.1.1 X (k := 2) rfl eS1 dX11_port_45 (fun H locs X => ?_)
  refine lv_iload_n C.1.1 C.1.2.1 dX11_port_48 rfl (lv_at hl 0 rfl) ?_
  refine lv_if_eq (tgt := 63) C.1.1 C.1.2.1 dX11_port_49 (by decide) (fun h_z => ?_) (fun h_z => ?_)
  · rw [if_pos h_z] at hF
    exact bX11_port_63 C O Tb X (lv_sub hl [1] rfl) hF
  · rw [if_neg h_z] at hF
    exact bX11_port_52 C O Tb X (lv_sub hl [1, 0] rfl) hF
noncomputable def fX11_port_b18 (N : Nat) (S : gS) : Option (tR) := some (2, 0, S)
theorem bX11_port_18 {N : Nat} {S : gS} {H : Heap} {locs : List Loc} {ls : Array Slot} {o : tR} (C : gC p s m args meth c cX11_port 4 RX11 ((some .int)) D (xtys cI cB cZ cQ) xord g Am) (O : tO l g cI cB cZ cQ Am aK aV) (Tb : ∀ x ∈ c.exceptionTable.toList, False) (X : gX D (xcell g cI cB cZ cQ) xord g S s H locs) (hl : lv_has ls 4 []) (hF : fX11_port_b18 N S = some o) : W p l e (rmx 72 1) s m args below meth c H locs 0 0 (gEX below args s D (xtys cI cB cZ cQ) (xcell g cI cB cZ cQ) xord g 1 false o) (F0 m 18 ls []) := by
  unfold fX11_port_b18 at hF
  cases hF
  exact t_newI (ii := 0) C O Tb X hl.1 rfl dX11_port_18 dX11_port_21 dX11_port_22 dX11_port_24 dX11_port_27 (Nat.le_of_ble_eq_true rfl) (Nat.le_of_ble_eq_true rfl) (Nat.le_of_ble_eq_true rfl) (Nat.le_of_ble_eq_true rfl) (by decide) (by decide)
noncomputable def fX11_port_b4 (N : Nat) (x1 : Int32) (S : gS) : Option (tR) := if x1 ≤ (S 2 1) then fX11_port_b28 N x1 S else fX11_port_b18 N S
theorem bX11_port_4 {N : Nat} {x1 : Int32} {S : gS} {H : Heap} {locs : List Loc} {ls : Array Slot} {o : tR} (C : gC p s m args meth c cX11_port 4 RX11 ((some .int)) D (xtys cI cB cZ cQ) xord g Am) (O : tO l g cI cB cZ cQ Am aK aV) (Tb : ∀ x ∈ c.exceptionTable.toList, False) (X : gX D (xcell g cI cB cZ cQ) xord g S s H locs) (hl : lv_has ls 4 [(0, .ref (g 0)), (1, .int x1)]) (hF : fX11_port_b4 N x1 S = some o) : W p l e (rmx 72 1) s m args below meth c H locs 0 0 (gEX below args s D (xtys cI cB cZ cQ) (xcell g cI cB cZ cQ) xord g 1 false o) (F0 m 4 ls []) := by
  unfold fX11_port_b4 at hF
  refine lv_iload_n C.1.1 C.1.2.1 dX11_port_4 rfl (lv_at hl 1 rfl) ?_
  refine lv_aload_n C.1.1 C.1.2.1 dX11_port_5 rfl (lv_at hl 0 rfl) ?_
  refine xg_X11_12 C O.1.1 X (k := 0) rfl (j := 1) rfl dX11_port_6 ?_
  refine xg_X11_69 C O.1.1 X (k := 1) rfl (j := 2) rfl dX11_port_9 ?_
  refine xg_X11_73 C O.1.1 X (k := 2) rfl dX11_port_12 ?_
  refine lv_icmp_le (tgt := 28) C.1.1 C.1.2.1 dX11_port_15 (by decide) (fun h_z => ?_) (fun h_z => ?_)
  · rw [if_pos h_z] at hF
    exact bX11_port_28 C O Tb X (lv_sub hl [0, 1] rfl) hF
  · rw [if_neg h_z] at hF
    exact bX11_port_18 C O Tb X (lv_sub hl [] rfl) hF
noncomputable def fX11_port_b0 (N : Nat) (x1 : Int32) (S : gS) : Option (tR) := if x1 < 0 then fX11_port_b18 N S else fX11_port_b4 N x1 S
theorem bX11_port_0 {N : Nat} {x1 : Int32} {S : gS} {H : Heap} {locs : List Loc} {ls : Array Slot} {o : tR} (C : gC p s m args meth c cX11_port 4 RX11 ((some .int)) D (xtys cI cB cZ cQ) xord g Am) (O : tO l g cI cB cZ cQ Am aK aV) (Tb : ∀ x ∈ c.exceptionTable.toList, False) (X : gX D (xcell g cI cB cZ cQ) xord g S s H locs) (hl : lv_has ls 4 [(0, .ref (g 0)), (1, .int x1)]) (hF : fX11_port_b0 N x1 S = some o) : W p l e (rmx 72 1) s m args below meth c H locs 0 0 (gEX below args s D (xtys cI cB cZ cQ) (xcell g cI cB cZ cQ) xord g 1 false o) (F0 m 0 ls []) := by
  unfold fX11_port_b0 at hF
  refine lv_iload_n C.1.1 C.1.2.1 dX11_port_0 rfl (lv_at hl 1 rfl) ?_
  refine lv_if_lt (tgt := 18) C.1.1 C.1.2.1 dX11_port_1 (by decide) (fun h_z => ?_) (fun h_z => ?_)
  · rw [if_pos h_z] at hF
    exact bX11_port_18 C O Tb X (lv_sub hl [] rfl) hF
  · rw [if_neg h_z] at hF
    exact bX11_port_4 C O Tb X (lv_sub hl [0, 1] rfl) hF
noncomputable def fX11_port (N : Nat) (x1 : Int32) (S : gS) : Option (tR) := fX11_port_b0 N x1 S
theorem kX11_port {l : Launch} {D : va_G} {g : Nat → Nat} {cI cB cZ cQ : ClassId} {Am : (Nat → Prop) → State → Heap → Prop} {aK aV : Nat → Nat} (O : tO l g cI cB cZ cQ Am aK aV) (P : gAm Am) (N : Nat) (x1 : Int32) (S : gS) (o : tR) (hF : fX11_port N x1 S = some o) : gN l yX11_port cX11_port 4 ((some .int)) 72 1 D (xtys cI cB cZ cQ) (xcell g cI cB cZ cQ) xord g Am [.ref (g 0), .int x1] S false o :=
  gN_of P (by decide) (Nat.le_of_ble_eq_true rfl) (fun p e s m args below meth c ls C Tb X hl => bX11_port_0 C O Tb X (lv_sub hl [0, 1] rfl) hF)
-- X11.count
noncomputable def fX11_count_b220 (N : Nat) (S : gS) : Option (tR) := some (1, 0, S)
theorem bX11_count_220 {N : Nat} {S : gS} {H : Heap} {locs : List Loc} {ls : Array Slot} {o : tR} (C : gC p s m args meth c cX11_count 3 RX11 ((some .int)) D (xtys cI cB cZ cQ) xord g Am) (O : tO l g cI cB cZ cQ Am aK aV) (Tb : ∀ x ∈ c.exceptionTable.toList, False) (X : gX D (xcell g cI cB cZ cQ) xord g S s H locs) (hl : lv_has ls 3 []) (hF : fX11_count_b220 N S = some o) : W p l e (rmx 6 1) s m args below meth c H locs 0 0 (gEX below args s D (xtys cI cB cZ cQ) (xcell g cI cB cZ cQ) xord g 1 false o) (F0 m 220 ls []) := by
  unfold fX11_count_b220 at hF
  cases hF
  exact t_newN (ii := 19) C O Tb X hl.1 rfl dX11_count_220 dX11_count_223 dX11_count_224 dX11_count_226 dX11_count_229 (Nat.le_of_ble_eq_true rfl) (Nat.le_of_ble_eq_true rfl) (Nat.le_of_ble_eq_true rfl) (Nat.le_of_ble_eq_true rfl) (by decide) (by decide)
noncomputable def fX11_count_b210 (N : Nat) (S : gS) : Option (tR) := some (0, S 32 2, S)
theorem bX11_count_210 {N : Nat} {S : gS} {H : Heap} {locs : List Loc} {ls : Array Slot} {o : tR} (C : gC p s m args meth c cX11_count 3 RX11 ((some .int)) D (xtys cI cB cZ cQ) xord g Am) (O : tO l g cI cB cZ cQ Am aK aV) (Tb : ∀ x ∈ c.exceptionTable.toList, False) (X : gX D (xcell g cI cB cZ cQ) xord g S s H locs) (hl : lv_has ls 3 [(0, .ref (g 0))]) (hF : fX11_count_b210 N S = some o) : W p l e (rmx 6 1) s m args below meth c H locs 0 0 (gEX below args s D (xtys cI cB cZ cQ) (xcell g cI cB cZ cQ) xord g 1 false o) (F0 m 210 ls []) := by
  unfold fX11_count_b210 at hF
  refine lv_aload_n C.1.1 C.1.2.1 dX11_count_210 rfl (lv_at hl 0 rfl) ?_
  refine xg_X11_19 C O.1.1 X (k := 0) rfl (j := 20) rfl dX11_count_211 ?_
  refine xg_X11_153 C O.1.1 X (k := 20) rfl (j := 32) rfl dX11_count_214 ?_
  refine lv_iconst (v := 2) C.1.1 C.1.2.1 dX11_count_217 (by decide) ?_
  refine x_rI C X (k := 32) rfl (n := 3) rfl (j := 2) (inb_vp (by decide)) (by decide) dX11_count_218 ?_
  cases hF
  exact t_iret C X (by decide) (by decide) dX11_count_219
noncomputable def fX11_count_b200 (N : Nat) (S : gS) : Option (tR) := some (0, S 32 1, S)
theorem bX11_count_200 {N : Nat} {S : gS} {H : Heap} {locs : List Loc} {ls : Array Slot} {o : tR} (C : gC p s m args meth c cX11_count 3 RX11 ((some .int)) D (xtys cI cB cZ cQ) xord g Am) (O : tO l g cI cB cZ cQ Am aK aV) (Tb : ∀ x ∈ c.exceptionTable.toList, False) (X : gX D (xcell g cI cB cZ cQ) xord g S s H locs) (hl : lv_has ls 3 [(0, .ref (g 0))]) (hF : fX11_count_b200 N S = some o) : W p l e (rmx 6 1) s m args below meth c H locs 0 0 (gEX below args s D (xtys cI cB cZ cQ) (xcell g cI cB cZ cQ) xord g 1 false o) (F0 m 200 ls []) := by
  unfold fX11_count_b200 at hF
  refine lv_aload_n C.1.1 C.1.2.1 dX11_count_200 rfl (lv_at hl 0 rfl) ?_
  refine xg_X11_19 C O.1.1 X (k := 0) rfl (j := 20) rfl dX11_count_201 ?_
  refine xg_X11_153 C O.1.1 X (k := 20) rfl (j := 32) rfl dX11_count_204 ?_
  refine lv_iconst (v := 1) C.1.1 C.1.2.1 dX11_count_207 (by decide) ?_
  refine x_rI C X (k := 32) rfl (n := 3) rfl (j := 1) (inb_vp (by decide)) (by decide) dX11_count_208 ?_
  cases hF
  exact t_iret C X (by decide) (by decide) dX11_count_209
noncomputable def fX11_count_b190 (N : Nat) (S : gS) : Option (tR) := some (0, S 32 0, S)
theorem bX11_count_190 {N : Nat} {S : gS} {H : Heap} {locs : List Loc} {ls : Array Slot} {o : tR} (C : gC p s m args meth c cX11_count 3 RX11 ((some .int)) D (xtys cI cB cZ cQ) xord g Am) (O : tO l g cI cB cZ cQ Am aK aV) (Tb : ∀ x ∈ c.exceptionTable.toList, False) (X : gX D (xcell g cI cB cZ cQ) xord g S s H locs) (hl : lv_has ls 3 [(0, .ref (g 0))]) (hF : fX11_count_b190 N S = some o) : W p l e (rmx 6 1) s m args below meth c H locs 0 0 (gEX below args s D (xtys cI cB cZ cQ) (xcell g cI cB cZ cQ) xord g 1 false o) (F0 m 190 ls []) := by
  unfold fX11_count_b190 at hF
  refine lv_aload_n C.1.1 C.1.2.1 dX11_count_190 rfl (lv_at hl 0 rfl) ?_
  refine xg_X11_19 C O.1.1 X (k := 0) rfl (j := 20) rfl dX11_count_191 ?_
  refine xg_X11_153 C O.1.1 X (k := 20) rfl (j := 32) rfl dX11_count_194 ?_
  refine lv_iconst (v := 0) C.1.1 C.1.2.1 dX11_count_197 (by decide) ?_
  refine x_rI C X (k := 32) rfl (n := 3) rfl (j := 0) (inb_vp (by decide)) (by decide) dX11_count_198 ?_
  cases hF
  exact t_iret C X (by decide) (by decide) dX11_count_199
noncomputable def fX11_count_b179 (N : Nat) (S : gS) : Option (tR) := some (0, S 2 1, S)
theorem bX11_count_179 {N : Nat} {S : gS} {H : Heap} {locs : List Loc} {ls : Array Slot} {o : tR} (C : gC p s m args meth c cX11_count 3 RX11 ((some .int)) D (xtys cI cB cZ cQ) xord g Am) (O : tO l g cI cB cZ cQ Am aK aV) (Tb : ∀ x ∈ c.exceptionTable.toList, False) (X : gX D (xcell g cI cB cZ cQ) xord g S s H locs) (hl : lv_has ls 3 [(0, .ref (g 0))]) (hF : fX11_count_b179 N S = some o) : W p l e (rmx 6 1) s m args below meth c H locs 0 0 (gEX below args s D (xtys cI cB cZ cQ) (xcell g cI cB cZ cQ) xord g 1 false o) (F0 m 179 ls []) := by
  unfold fX11_count_b179 at hF
  refine lv_aload_n C.1.1 C.1.2.1 dX11_count_179 rfl (lv_at hl 0 rfl) ?_
  refine xg_X11_12 C O.1.1 X (k := 0) rfl (j := 1) rfl dX11_count_180 ?_
  refine xg_X11_69 C O.1.1 X (k := 1) rfl (j := 2) rfl dX11_count_183 ?_
  refine xg_X11_73 C O.1.1 X (k := 2) rfl dX11_count_186 ?_
  cases hF
  exact t_iret C X (by decide) (by decide) dX11_count_189
noncomputable def fX11_count_b168 (N : Nat) (S : gS) : Option (tR) := some (0, S 28 3, S)
theorem bX11_count_168 {N : Nat} {S : gS} {H : Heap} {locs : List Loc} {ls : Array Slot} {o : tR} (C : gC p s m args meth c cX11_count 3 RX11 ((some .int)) D (xtys cI cB cZ cQ) xord g Am) (O : tO l g cI cB cZ cQ Am aK aV) (Tb : ∀ x ∈ c.exceptionTable.toList, False) (X : gX D (xcell g cI cB cZ cQ) xord g S s H locs) (hl : lv_has ls 3 [(0, .ref (g 0))]) (hF : fX11_count_b168 N S = some o) : W p l e (rmx 6 1) s m args below meth c H locs 0 0 (gEX below args s D (xtys cI cB cZ cQ) (xcell g cI cB cZ cQ) xord g 1 false o) (F0 m 168 ls []) := by
  unfold fX11_count_b168 at hF
  refine lv_aload_n C.1.1 C.1.2.1 dX11_count_168 rfl (lv_at hl 0 rfl) ?_
  refine xg_X11_19 C O.1.1 X (k := 0) rfl (j := 20) rfl dX11_count_169 ?_
  refine xg_X11_146 C O.1.1 X (k := 20) rfl (j := 28) rfl dX11_count_172 ?_
  refine xg_X11_150 C O.1.1 X (k := 28) rfl dX11_count_175 ?_
  cases hF
  exact t_iret C X (by decide) (by decide) dX11_count_178
noncomputable def fX11_count_b157 (N : Nat) (S : gS) : Option (tR) := some (0, S 26 1, S)
theorem bX11_count_157 {N : Nat} {S : gS} {H : Heap} {locs : List Loc} {ls : Array Slot} {o : tR} (C : gC p s m args meth c cX11_count 3 RX11 ((some .int)) D (xtys cI cB cZ cQ) xord g Am) (O : tO l g cI cB cZ cQ Am aK aV) (Tb : ∀ x ∈ c.exceptionTable.toList, False) (X : gX D (xcell g cI cB cZ cQ) xord g S s H locs) (hl : lv_has ls 3 [(0, .ref (g 0))]) (hF : fX11_count_b157 N S = some o) : W p l e (rmx 6 1) s m args below meth c H locs 0 0 (gEX below args s D (xtys cI cB cZ cQ) (xcell g cI cB cZ cQ) xord g 1 false o) (F0 m 157 ls []) := by
  unfold fX11_count_b157 at hF
  refine lv_aload_n C.1.1 C.1.2.1 dX11_count_157 rfl (lv_at hl 0 rfl) ?_
  refine xg_X11_19 C O.1.1 X (k := 0) rfl (j := 20) rfl dX11_count_158 ?_
  refine xg_X11_137 C O.1.1 X (k := 20) rfl (j := 26) rfl dX11_count_161 ?_
  refine xg_X11_141 C O.1.1 X (k := 26) rfl dX11_count_164 ?_
  cases hF
  exact t_iret C X (by decide) (by decide) dX11_count_167
noncomputable def fX11_count_b148 (N : Nat) (S : gS) : Option (tR) := lt (xtw S) fun T1 => (bnd (fX7_sins N 21 T1 S) fun q1 => (some (0, q1.1, q1.2)))
theorem bX11_count_148 {N : Nat} {S : gS} {H : Heap} {locs : List Loc} {ls : Array Slot} {o : tR} (C : gC p s m args meth c cX11_count 3 RX11 ((some .int)) D (xtys cI cB cZ cQ) xord g Am) (O : tO l g cI cB cZ cQ Am aK aV) (Tb : ∀ x ∈ c.exceptionTable.toList, False) (X : gX D (xcell g cI cB cZ cQ) xord g S s H locs) (hl : lv_has ls 3 [(0, .ref (g 0)), (2, .ref (g 21))]) (hF : fX11_count_b148 N S = some o) : W p l e (rmx 6 1) s m args below meth c H locs 0 0 (gEX below args s D (xtys cI cB cZ cQ) (xcell g cI cB cZ cQ) xord g 1 false o) (F0 m 148 ls []) := by
  unfold fX11_count_b148 at hF
  refine lv_aload_n C.1.1 C.1.2.1 dX11_count_148 rfl (lv_at hl 1 rfl) ?_
  refine lv_aload_n C.1.1 C.1.2.1 dX11_count_149 rfl (lv_at hl 0 rfl) ?_
  obtain ⟨T1, eT1, hF⟩ := lt_some hF
  have hk_T1 := xtw_k eT1
  refine xg_X11_57 C O.1.1 X (T := T1) eT1 (k := 0) rfl dX11_count_150 ?_
  obtain ⟨q1, hq1, hF⟩ := bnd_some hF
  refine x_callVi C X (k := 21) xv_X11_134 (rfl : xk 21 = 7) rfl rfl (by decide) (kX7_sins O.1.1 C.2.2.2.2.1 N 21 T1 (rfl : xk 21 = 7) (hk_T1 : xk T1 = 9) S q1 hq1) (Nat.le_of_ble_eq_true rfl) (Nat.le_of_ble_eq_true rfl) (Nat.le_of_ble_eq_true rfl) (Nat.le_of_ble_eq_true rfl) rfl hl.1 rfl (Nat.le_of_ble_eq_true rfl) dX11_count_153 (fun H locs X => ?_)
  cases hF
  exact t_iret C X (by decide) (by decide) dX11_count_156
noncomputable def fX11_count_b139 (N : Nat) (S : gS) : Option (tR) := lt (xtw S) fun T1 => (bnd (fX7_purses N 21 T1 S) fun q1 => (some (0, q1.1, q1.2)))
theorem bX11_count_139 {N : Nat} {S : gS} {H : Heap} {locs : List Loc} {ls : Array Slot} {o : tR} (C : gC p s m args meth c cX11_count 3 RX11 ((some .int)) D (xtys cI cB cZ cQ) xord g Am) (O : tO l g cI cB cZ cQ Am aK aV) (Tb : ∀ x ∈ c.exceptionTable.toList, False) (X : gX D (xcell g cI cB cZ cQ) xord g S s H locs) (hl : lv_has ls 3 [(0, .ref (g 0)), (2, .ref (g 21))]) (hF : fX11_count_b139 N S = some o) : W p l e (rmx 6 1) s m args below meth c H locs 0 0 (gEX below args s D (xtys cI cB cZ cQ) (xcell g cI cB cZ cQ) xord g 1 false o) (F0 m 139 ls []) := by
  unfold fX11_count_b139 at hF
  refine lv_aload_n C.1.1 C.1.2.1 dX11_count_139 rfl (lv_at hl 1 rfl) ?_
  refine lv_aload_n C.1.1 C.1.2.1 dX11_count_140 rfl (lv_at hl 0 rfl) ?_
  obtain ⟨T1, eT1, hF⟩ := lt_some hF
  have hk_T1 := xtw_k eT1
  refine xg_X11_57 C O.1.1 X (T := T1) eT1 (k := 0) rfl dX11_count_141 ?_
  obtain ⟨q1, hq1, hF⟩ := bnd_some hF
  refine x_callVi C X (k := 21) xv_X11_131 (rfl : xk 21 = 7) rfl rfl (by decide) (kX7_purses O.1.1 C.2.2.2.2.1 N 21 T1 (rfl : xk 21 = 7) (hk_T1 : xk T1 = 9) S q1 hq1) (Nat.le_of_ble_eq_true rfl) (Nat.le_of_ble_eq_true rfl) (Nat.le_of_ble_eq_true rfl) (Nat.le_of_ble_eq_true rfl) rfl hl.1 rfl (Nat.le_of_ble_eq_true rfl) dX11_count_144 (fun H locs X => ?_)
  cases hF
  exact t_iret C X (by decide) (by decide) dX11_count_147
noncomputable def fX11_count_b134 (N : Nat) (S : gS) : Option (tR) := some (0, S 21 1, S)
theorem bX11_count_134 {N : Nat} {S : gS} {H : Heap} {locs : List Loc} {ls : Array Slot} {o : tR} (C : gC p s m args meth c cX11_count 3 RX11 ((some .int)) D (xtys cI cB cZ cQ) xord g Am) (O : tO l g cI cB cZ cQ Am aK aV) (Tb : ∀ x ∈ c.exceptionTable.toList, False) (X : gX D (xcell g cI cB cZ cQ) xord g S s H locs) (hl : lv_has ls 3 [(2, .ref (g 21))]) (hF : fX11_count_b134 N S = some o) : W p l e (rmx 6 1) s m args below meth c H locs 0 0 (gEX below args s D (xtys cI cB cZ cQ) (xcell g cI cB cZ cQ) xord g 1 false o) (F0 m 134 ls []) := by
  unfold fX11_count_b134 at hF
  refine lv_aload_n C.1.1 C.1.2.1 dX11_count_134 rfl (lv_at hl 0 rfl) ?_
  refine xg_X11_128 C O.1.1 X (k := 21) rfl dX11_count_135 ?_
  cases hF
  exact t_iret C X (by decide) (by decide) dX11_count_138
noncomputable def fX11_count_b125 (N : Nat) (S : gS) : Option (tR) := lt (xtw S) fun T1 => (bnd (fX7_hiredBits N 21 T1 S) fun q1 => (some (0, q1.1, q1.2)))
theorem bX11_count_125 {N : Nat} {S : gS} {H : Heap} {locs : List Loc} {ls : Array Slot} {o : tR} (C : gC p s m args meth c cX11_count 3 RX11 ((some .int)) D (xtys cI cB cZ cQ) xord g Am) (O : tO l g cI cB cZ cQ Am aK aV) (Tb : ∀ x ∈ c.exceptionTable.toList, False) (X : gX D (xcell g cI cB cZ cQ) xord g S s H locs) (hl : lv_has ls 3 [(0, .ref (g 0)), (2, .ref (g 21))]) (hF : fX11_count_b125 N S = some o) : W p l e (rmx 6 1) s m args below meth c H locs 0 0 (gEX below args s D (xtys cI cB cZ cQ) (xcell g cI cB cZ cQ) xord g 1 false o) (F0 m 125 ls []) := by
  unfold fX11_count_b125 at hF
  refine lv_aload_n C.1.1 C.1.2.1 dX11_count_125 rfl (lv_at hl 1 rfl) ?_
  refine lv_aload_n C.1.1 C.1.2.1 dX11_count_126 rfl (lv_at hl 0 rfl) ?_
  obtain ⟨T1, eT1, hF⟩ := lt_some hF
  have hk_T1 := xtw_k eT1
  refine xg_X11_57 C O.1.1 X (T := T1) eT1 (k := 0) rfl dX11_count_127 ?_
  obtain ⟨q1, hq1, hF⟩ := bnd_some hF
  refine x_callVi C X (k := 21) xv_X11_124 (rfl : xk 21 = 7) rfl rfl (by decide) (kX7_hiredBits O.1.1 C.2.2.2.2.1 N 21 T1 (rfl : xk 21 = 7) (hk_T1 : xk T1 = 9) S q1 hq1) (Nat.le_of_ble_eq_true rfl) (Nat.le_of_ble_eq_true rfl) (Nat.le_of_ble_eq_true rfl) (Nat.le_of_ble_eq_true rfl) rfl hl.1 rfl (Nat.le_of_ble_eq_true rfl) dX11_count_130 (fun H locs X => ?_)
  cases hF
  exact t_iret C X (by decide) (by decide) dX11_count_133
noncomputable def fX11_count_b117 (N : Nat) (S : gS) : Option (tR) := lt (xtw S) fun T1 => (bnd (fX9_mostSin N T1 S) fun q1 => (some (0, q1.1, q1.2)))
theorem bX11_count_117 {N : Nat} {S : gS} {H : Heap} {locs : List Loc} {ls : Array Slot} {o : tR} (C : gC p s m args meth c cX11_count 3 RX11 ((some .int)) D (xtys cI cB cZ cQ) xord g Am) (O : tO l g cI cB cZ cQ Am aK aV) (Tb : ∀ x ∈ c.exceptionTable.toList, False) (X : gX D (xcell g cI cB cZ cQ) xord g S s H locs) (hl : lv_has ls 3 [(0, .ref (g 0))]) (hF : fX11_count_b117 N S = some o) : W p l e (rmx 6 1) s m args below meth c H locs 0 0 (gEX below args s D (xtys cI cB cZ cQ) (xcell g cI cB cZ cQ) xord g 1 false o) (F0 m 117 ls []) := by
  unfold fX11_count_b117 at hF
  refine lv_aload_n C.1.1 C.1.2.1 dX11_count_117 rfl (lv_at hl 0 rfl) ?_
  obtain ⟨T1, eT1, hF⟩ := lt_some hF
  have hk_T1 := xtw_k eT1
  refine xg_X11_57 C O.1.1 X (T := T1) eT1 (k := 0) rfl dX11_count_118 ?_
  obtain ⟨q1, hq1, hF⟩ := bnd_some hF
  refine x_callVi C X (k := T1) xv_X11_120 hk_T1 rfl rfl (by decide) (kX9_mostSin O.1.1 C.2.2.2.2.1 N T1 (hk_T1 : xk T1 = 9) S q1 hq1) (Nat.le_of_ble_eq_true rfl) (Nat.le_of_ble_eq_true rfl) (Nat.le_of_ble_eq_true rfl) (Nat.le_of_ble_eq_true rfl) rfl hl.1 rfl (Nat.le_of_ble_eq_true rfl) dX11_count_121 (fun H locs X => ?_)
  cases hF
  exact t_iret C X (by decide) (by decide) dX11_count_124
noncomputable def fX11_count_b105 (N : Nat) (S : gS) : Option (tR) := lt (xtw S) fun T1 => (bnd (fX9_wetOf N T1 (S 21 0) S) fun q1 => (some (0, q1.1, q1.2)))
theorem bX11_count_105 {N : Nat} {S : gS} {H : Heap} {locs : List Loc} {ls : Array Slot} {o : tR} (C : gC p s m args meth c cX11_count 3 RX11 ((some .int)) D (xtys cI cB cZ cQ) xord g Am) (O : tO l g cI cB cZ cQ Am aK aV) (Tb : ∀ x ∈ c.exceptionTable.toList, False) (X : gX D (xcell g cI cB cZ cQ) xord g S s H locs) (hl : lv_has ls 3 [(0, .ref (g 0)), (2, .ref (g 21))]) (hF : fX11_count_b105 N S = some o) : W p l e (rmx 6 1) s m args below meth c H locs 0 0 (gEX below args s D (xtys cI cB cZ cQ) (xcell g cI cB cZ cQ) xord g 1 false o) (F0 m 105 ls []) := by
  unfold fX11_count_b105 at hF
  refine lv_aload_n C.1.1 C.1.2.1 dX11_count_105 rfl (lv_at hl 0 rfl) ?_
  obtain ⟨T1, eT1, hF⟩ := lt_some hF
  have hk_T1 := xtw_k eT1
  refine xg_X11_57 C O.1.1 X (T := T1) eT1 (k := 0) rfl dX11_count_106 ?_
  refine lv_aload_n C.1.1 C.1.2.1 dX11_count_109 rfl (lv_at hl 1 rfl) ?_
  refine xg_X11_114 C O.1.1 X (k := 21) rfl dX11_count_110 ?_
  obtain ⟨q1, hq1, hF⟩ := bnd_some hF
  refine x_callVi C X (k := T1) xv_X11_117 hk_T1 rfl rfl (by decide) (kX9_wetOf O.1.1 C.2.2.2.2.1 N T1 (S 21 0) (hk_T1 : xk T1 = 9) S q1 hq1) (Nat.le_of_ble_eq_true rfl) (Nat.le_of_ble_eq_true rfl) (Nat.le_of_ble_eq_true rfl) (Nat.le_of_ble_eq_true rfl) rfl hl.1 rfl (Nat.le_of_ble_eq_true rfl) dX11_count_113 (fun H locs X => ?_)
  cases hF
  exact t_iret C X (by decide) (by decide) dX11_count_116
noncomputable def fX11_count_b100 (N : Nat) (S : gS) : Option (tR) := some (0, S 21 0, S)
theorem bX11_count_100 {N : Nat} {S : gS} {H : Heap} {locs : List Loc} {ls : Array Slot} {o : tR} (C : gC p s m args meth c cX11_count 3 RX11 ((some .int)) D (xtys cI cB cZ cQ) xord g Am) (O : tO l g cI cB cZ cQ Am aK aV) (Tb : ∀ x ∈ c.exceptionTable.toList, False) (X : gX D (xcell g cI cB cZ cQ) xord g S s H locs) (hl : lv_has ls 3 [(2, .ref (g 21))]) (hF : fX11_count_b100 N S = some o) : W p l e (rmx 6 1) s m args below meth c H locs 0 0 (gEX below args s D (xtys cI cB cZ cQ) (xcell g cI cB cZ cQ) xord g 1 false o) (F0 m 100 ls []) := by
  unfold fX11_count_b100 at hF
  refine lv_aload_n C.1.1 C.1.2.1 dX11_count_100 rfl (lv_at hl 0 rfl) ?_
  refine xg_X11_114 C O.1.1 X (k := 21) rfl dX11_count_101 ?_
  cases hF
  exact t_iret C X (by decide) (by decide) dX11_count_104
noncomputable def fX11_count_b92 (N : Nat) (S : gS) : Option (tR) := lt (xtw S) fun T1 => (some (0, S T1 5, S))
theorem bX11_count_92 {N : Nat} {S : gS} {H : Heap} {locs : List Loc} {ls : Array Slot} {o : tR} (C : gC p s m args meth c cX11_count 3 RX11 ((some .int)) D (xtys cI cB cZ cQ) xord g Am) (O : tO l g cI cB cZ cQ Am aK aV) (Tb : ∀ x ∈ c.exceptionTable.toList, False) (X : gX D (xcell g cI cB cZ cQ) xord g S s H locs) (hl : lv_has ls 3 [(0, .ref (g 0))]) (hF : fX11_count_b92 N S = some o) : W p l e (rmx 6 1) s m args below meth c H locs 0 0 (gEX below args s D (xtys cI cB cZ cQ) (xcell g cI cB cZ cQ) xord g 1 false o) (F0 m 92 ls []) := by
  unfold fX11_count_b92 at hF
  refine lv_aload_n C.1.1 C.1.2.1 dX11_count_92 rfl (lv_at hl 0 rfl) ?_
  obtain ⟨T1, eT1, hF⟩ := lt_some hF
  have hk_T1 := xtw_k eT1
  refine xg_X11_57 C O.1.1 X (T := T1) eT1 (k := 0) rfl dX11_count_93 ?_
  refine xg_X11_111 C O.1.1 X (k := T1) hk_T1 dX11_count_96 ?_
  cases hF
  exact t_iret C X (by decide) (by decide) dX11_count_99
noncomputable def fX11_count_b84 (N : Nat) (S : gS) : Option (tR) := lt (xtw S) fun T1 => (some (0, S T1 0, S))
theorem bX11_count_84 {N : Nat} {S : gS} {H : Heap} {locs : List Loc} {ls : Array Slot} {o : tR} (C : gC p s m args meth c cX11_count 3 RX11 ((some .int)) D (xtys cI cB cZ cQ) xord g Am) (O : tO l g cI cB cZ cQ Am aK aV) (Tb : ∀ x ∈ c.exceptionTable.toList, False) (X : gX D (xcell g cI cB cZ cQ) xord g S s H locs) (hl : lv_has ls 3 [(0, .ref (g 0))]) (hF : fX11_count_b84 N S = some o) : W p l e (rmx 6 1) s m args below meth c H locs 0 0 (gEX below args s D (xtys cI cB cZ cQ) (xcell g cI cB cZ cQ) xord g 1 false o) (F0 m 84 ls []) := by
  unfold fX11_count_b84 at hF
  refine lv_aload_n C.1.1 C.1.2.1 dX11_count_84 rfl (lv_at hl 0 rfl) ?_
  obtain ⟨T1, eT1, hF⟩ := lt_some hF
  have hk_T1 := xtw_k eT1
  refine xg_X11_57 C O.1.1 X (T := T1) eT1 (k := 0) rfl dX11_count_85 ?_
  refine xg_X11_108 C O.1.1 X (k := T1) hk_T1 dX11_count_88 ?_
  cases hF
  exact t_iret C X (by decide) (by decide) dX11_count_91
noncomputable def fX11_count_b0 (N : Nat) (x1 : Int32) (S : gS) : Option (tR) := if x1 = 0 then fX11_count_b84 N S else if x1 = 1 then fX11_count_b92 N S else if x1 = 2 then fX11_count_b100 N S else if x1 = 3 then fX11_count_b105 N S else if x1 = 4 then fX11_count_b117 N S else if x1 = 5 then fX11_count_b125 N S else if x1 = 6 then fX11_count_b134 N S else if x1 = 7 then fX11_count_b139 N S else if x1 = 8 then fX11_count_b148 N S else if x1 = 9 then fX11_count_b157 N S else if x1 = 10 then fX11_count_b168 N S else if x1 = 11 then fX11_count_b179 N S else if x1 = 12 then fX11_count_b190 N S else if x1 = 13 then fX11_count_b200 N S else if x1 = 14 then fX11_count_b210 N S else fX11_count_b220 N S
theorem bX11_count_0 {N : Nat} {x1 : Int32} {S : gS} {H : Heap} {locs : List Loc} {ls : Array Slot} {o : tR} (C : gC p s m args meth c cX11_count 3 RX11 ((some .int)) D (xtys cI cB cZ cQ) xord g Am) (O : tO l g cI cB cZ cQ Am aK aV) (Tb : ∀ x ∈ c.exceptionTable.toList, False) (X : gX D (xcell g cI cB cZ cQ) xord g S s H locs) (hl : lv_has ls 3 [(0, .ref (g 0)), (1, .int x1)]) (hF : fX11_count_b0 N x1 S = some o) : W p l e (rmx 6 1) s m args below meth c H locs 0 0 (gEX below args s D (xtys cI cB cZ cQ) (xcell g cI cB cZ cQ) xord g 1 false o) (F0 m 0 ls []) := by
  unfold fX11_count_b0 at hF
  refine lv_aload_n C.1.1 C.1.2.1 dX11_count_0 rfl (lv_at hl 0 rfl) ?_
  refine xg_X11_19 C O.1.1 X (k := 0) rfl (j := 20) rfl dX11_count_1 ?_
  refine xg_X11_105 C O.1.1 X (k := 20) rfl (j := 21) rfl dX11_count_4 ?_
  refine lv_astore_n (lv' := [(2, .ref (g 21)), (0, .ref (g 0)), (1, .int x1)]) C.1.1 C.1.2.1 dX11_count_7 rfl hl (by decide) rfl (fun ls hl => ?_)
  refine lv_iload_n C.1.1 C.1.2.1 dX11_count_8 rfl (lv_at hl 2 rfl) ?_
  by_cases hz_0 : x1 = 0
  · rw [if_pos hz_0] at hF
    refine lv_tableIn (off := 75) (tgt := 84) C.1.1 C.1.2.1 dX11_count_9 (by rw [hz_0]; decide) (by rw [hz_0]; decide) (by rw [hz_0]; decide) (by decide) ?_
    exact bX11_count_84 C O Tb X (lv_sub hl [1] rfl) hF
  rw [if_neg hz_0] at hF
  by_cases hz_1 : x1 = 1
  · rw [if_pos hz_1] at hF
    refine lv_tableIn (off := 83) (tgt := 92) C.1.1 C.1.2.1 dX11_count_9 (by rw [hz_1]; decide) (by rw [hz_1]; decide) (by rw [hz_1]; decide) (by decide) ?_
    exact bX11_count_92 C O Tb X (lv_sub hl [1] rfl) hF
  rw [if_neg hz_1] at hF
  by_cases hz_2 : x1 = 2
  · rw [if_pos hz_2] at hF
    refine lv_tableIn (off := 91) (tgt := 100) C.1.1 C.1.2.1 dX11_count_9 (by rw [hz_2]; decide) (by rw [hz_2]; decide) (by rw [hz_2]; decide) (by decide) ?_
    exact bX11_count_100 C O Tb X (lv_sub hl [0] rfl) hF
  rw [if_neg hz_2] at hF
  by_cases hz_3 : x1 = 3
  · rw [if_pos hz_3] at hF
    refine lv_tableIn (off := 96) (tgt := 105) C.1.1 C.1.2.1 dX11_count_9 (by rw [hz_3]; decide) (by rw [hz_3]; decide) (by rw [hz_3]; decide) (by decide) ?_
    exact bX11_count_105 C O Tb X (lv_sub hl [1, 0] rfl) hF
  rw [if_neg hz_3] at hF
  by_cases hz_4 : x1 = 4
  · rw [if_pos hz_4] at hF
    refine lv_tableIn (off := 108) (tgt := 117) C.1.1 C.1.2.1 dX11_count_9 (by rw [hz_4]; decide) (by rw [hz_4]; decide) (by rw [hz_4]; decide) (by decide) ?_
    exact bX11_count_117 C O Tb X (lv_sub hl [1] rfl) hF
  rw [if_neg hz_4] at hF
  by_cases hz_5 : x1 = 5
  · rw [if_pos hz_5] at hF
    refine lv_tableIn (off := 116) (tgt := 125) C.1.1 C.1.2.1 dX11_count_9 (by rw [hz_5]; decide) (by rw [hz_5]; decide) (by rw [hz_5]; decide) (by decide) ?_
    exact bX11_count_125 C O Tb X (lv_sub hl [1, 0] rfl) hF
  rw [if_neg hz_5] at hF
  by_cases hz_6 : x1 = 6
  · rw [if_pos hz_6] at hF
    refine lv_tableIn (off := 125) (tgt := 134) C.1.1 C.1.2.1 dX11_count_9 (by rw [hz_6]; decide) (by rw [hz_6]; decide) (by rw [hz_6]; decide) (by decide) ?_
    exact bX11_count_134 C O Tb X (lv_sub hl [0] rfl) hF
  rw [if_neg hz_6] at hF
  by_cases hz_7 : x1 = 7
  · rw [if_pos hz_7] at hF
    refine lv_tableIn (off := 130) (tgt := 139) C.1.1 C.1.2.1 dX11_count_9 (by rw [hz_7]; decide) (by rw [hz_7]; decide) (by rw [hz_7]; decide) (by decide) ?_
    exact bX11_count_139 C O Tb X (lv_sub hl [1, 0] rfl) hF
  rw [if_neg hz_7] at hF
  by_cases hz_8 : x1 = 8
  · rw [if_pos hz_8] at hF
    refine lv_tableIn (off := 139) (tgt := 148) C.1.1 C.1.2.1 dX11_count_9 (by rw [hz_8]; decide) (by rw [hz_8]; decide) (by rw [hz_8]; decide) (by decide) ?_
    exact bX11_count_148 C O Tb X (lv_sub hl [1, 0] rfl) hF
  rw [if_neg hz_8] at hF
  by_cases hz_9 : x1 = 9
  · rw [if_pos hz_9] at hF
    refine lv_tableIn (off := 148) (tgt := 157) C.1.1 C.1.2.1 dX11_count_9 (by rw [hz_9]; decide) (by rw [hz_9]; decide) (by rw [hz_9]; decide) (by decide) ?_
    exact bX11_count_157 C O Tb X (lv_sub hl [1] rfl) hF
  rw [if_neg hz_9] at hF
  by_cases hz_10 : x1 = 10
  · rw [if_pos hz_10] at hF
    refine lv_tableIn (off := 159) (tgt := 168) C.1.1 C.1.2.1 dX11_count_9 (by rw [hz_10]; decide) (by rw [hz_10]; decide) (by rw [hz_10]; decide) (by decide) ?_
    exact bX11_count_168 C O Tb X (lv_sub hl [1] rfl) hF
  rw [if_neg hz_10] at hF
  by_cases hz_11 : x1 = 11
  · rw [if_pos hz_11] at hF
    refine lv_tableIn (off := 170) (tgt := 179) C.1.1 C.1.2.1 dX11_count_9 (by rw [hz_11]; decide) (by rw [hz_11]; decide) (by rw [hz_11]; decide) (by decide) ?_
    exact bX11_count_179 C O Tb X (lv_sub hl [1] rfl) hF
  rw [if_neg hz_11] at hF
  by_cases hz_12 : x1 = 12
  · rw [if_pos hz_12] at hF
    refine lv_tableIn (off := 181) (tgt := 190) C.1.1 C.1.2.1 dX11_count_9 (by rw [hz_12]; decide) (by rw [hz_12]; decide) (by rw [hz_12]; decide) (by decide) ?_
    exact bX11_count_190 C O Tb X (lv_sub hl [1] rfl) hF
  rw [if_neg hz_12] at hF
  by_cases hz_13 : x1 = 13
  · rw [if_pos hz_13] at hF
    refine lv_tableIn (off := 191) (tgt := 200) C.1.1 C.1.2.1 dX11_count_9 (by rw [hz_13]; decide) (by rw [hz_13]; decide) (by rw [hz_13]; decide) (by decide) ?_
    exact bX11_count_200 C O Tb X (lv_sub hl [1] rfl) hF
  rw [if_neg hz_13] at hF
  by_cases hz_14 : x1 = 14
  · rw [if_pos hz_14] at hF
    refine lv_tableIn (off := 201) (tgt := 210) C.1.1 C.1.2.1 dX11_count_9 (by rw [hz_14]; decide) (by rw [hz_14]; decide) (by rw [hz_14]; decide) (by decide) ?_
    exact bX11_count_210 C O Tb X (lv_sub hl [1] rfl) hF
  rw [if_neg hz_14] at hF
  refine lv_tableOut (tgt := 220) C.1.1 C.1.2.1 dX11_count_9 (g_tsw 0 14 _ ?_) (by decide) ?_
  · intro i hi1 hi2
    rcases (show i = 0 ∨ i = 1 ∨ i = 2 ∨ i = 3 ∨ i = 4 ∨ i = 5 ∨ i = 6 ∨ i = 7 ∨ i = 8 ∨ i = 9 ∨ i = 10 ∨ i = 11 ∨ i = 12 ∨ i = 13 ∨ i = 14 by omega) with rfl | rfl | rfl | rfl | rfl | rfl | rfl | rfl | rfl | rfl | rfl | rfl | rfl | rfl | rfl
    · exact hz_0
    · exact hz_1
    · exact hz_2
    · exact hz_3
    · exact hz_4
    · exact hz_5
    · exact hz_6
    · exact hz_7
    · exact hz_8
    · exact hz_9
    · exact hz_10
    · exact hz_11
    · exact hz_12
    · exact hz_13
    · exact hz_14
  exact bX11_count_220 C O Tb X (lv_sub hl [] rfl) hF
noncomputable def fX11_count (N : Nat) (x1 : Int32) (S : gS) : Option (tR) := fX11_count_b0 N x1 S
theorem kX11_count {l : Launch} {D : va_G} {g : Nat → Nat} {cI cB cZ cQ : ClassId} {Am : (Nat → Prop) → State → Heap → Prop} {aK aV : Nat → Nat} (O : tO l g cI cB cZ cQ Am aK aV) (P : gAm Am) (N : Nat) (x1 : Int32) (S : gS) (o : tR) (hF : fX11_count N x1 S = some o) : gN l yX11_count cX11_count 3 ((some .int)) 6 1 D (xtys cI cB cZ cQ) (xcell g cI cB cZ cQ) xord g Am [.ref (g 0), .int x1] S false o :=
  gN_of P (by decide) (Nat.le_of_ble_eq_true rfl) (fun p e s m args below meth c ls C Tb X hl => bX11_count_0 C O Tb X (lv_sub hl [0, 1] rfl) hF)
-- X11.needGrotto
noncomputable def fX11_needGrotto_b22 (N : Nat) (S : gS) : Option (tR) := some (0, 0, S)
theorem bX11_needGrotto_22 {N : Nat} {S : gS} {H : Heap} {locs : List Loc} {ls : Array Slot} {o : tR} (C : gC p s m args meth c cX11_needGrotto 2 RX11 none D (xtys cI cB cZ cQ) xord g Am) (O : tO l g cI cB cZ cQ Am aK aV) (Tb : ∀ x ∈ c.exceptionTable.toList, False) (X : gX D (xcell g cI cB cZ cQ) xord g S s H locs) (hl : lv_has ls 2 []) (hF : fX11_needGrotto_b22 N S = some o) : W p l e (rmx 6 1) s m args below meth c H locs 0 0 (gEX below args s D (xtys cI cB cZ cQ) (xcell g cI cB cZ cQ) xord g 1 true o) (F0 m 22 ls []) := by
  unfold fX11_needGrotto_b22 at hF
  cases hF
  exact t_vret C X (by decide) (by decide) dX11_needGrotto_22
noncomputable def fX11_needGrotto_b11 (N : Nat) (S : gS) : Option (tR) := some (1, 0, S)
theorem bX11_needGrotto_11 {N : Nat} {S : gS} {H : Heap} {locs : List Loc} {ls : Array Slot} {o : tR} (C : gC p s m args meth c cX11_needGrotto 2 RX11 none D (xtys cI cB cZ cQ) xord g Am) (O : tO l g cI cB cZ cQ Am aK aV) (Tb : ∀ x ∈ c.exceptionTable.toList, False) (X : gX D (xcell g cI cB cZ cQ) xord g S s H locs) (hl : lv_has ls 2 []) (hF : fX11_needGrotto_b11 N S = some o) : W p l e (rmx 6 1) s m args below meth c H locs 0 0 (gEX below args s D (xtys cI cB cZ cQ) (xcell g cI cB cZ cQ) xord g 1 true o) (F0 m 11 ls []) := by
  unfold fX11_needGrotto_b11 at hF
  cases hF
  exact t_newNW (ii := 20) C O Tb X hl.1 rfl dX11_needGrotto_11 dX11_needGrotto_14 dX11_needGrotto_15 dX11_needGrotto_18 dX11_needGrotto_21 (Nat.le_of_ble_eq_true rfl) (Nat.le_of_ble_eq_true rfl) (Nat.le_of_ble_eq_true rfl) (Nat.le_of_ble_eq_true rfl) (by decide) (by decide)
noncomputable def fX11_needGrotto_b0 (N : Nat) (x1 : Int32) (S : gS) : Option (tR) := lt (xtw S) fun T1 => (bnd (fX9_isGrotto N T1 x1 S) fun q1 => (if q1.1 = 0 then fX11_needGrotto_b11 N q1.2 else fX11_needGrotto_b22 N q1.2))
theorem bX11_needGrotto_0 {N : Nat} {x1 : Int32} {S : gS} {H : Heap} {locs : List Loc} {ls : Array Slot} {o : tR} (C : gC p s m args meth c cX11_needGrotto 2 RX11 none D (xtys cI cB cZ cQ) xord g Am) (O : tO l g cI cB cZ cQ Am aK aV) (Tb : ∀ x ∈ c.exceptionTable.toList, False) (X : gX D (xcell g cI cB cZ cQ) xord g S s H locs) (hl : lv_has ls 2 [(0, .ref (g 0)), (1, .int x1)]) (hF : fX11_needGrotto_b0 N x1 S = some o) : W p l e (rmx 6 1) s m args below meth c H locs 0 0 (gEX below args s D (xtys cI cB cZ cQ) (xcell g cI cB cZ cQ) xord g 1 true o) (F0 m 0 ls []) := by
  unfold fX11_needGrotto_b0 at hF
  refine lv_aload_n C.1.1 C.1.2.1 dX11_needGrotto_0 rfl (lv_at hl 0 rfl) ?_
  obtain ⟨T1, eT1, hF⟩ := lt_some hF
  have hk_T1 := xtw_k eT1
  refine xg_X11_57 C O.1.1 X (T := T1) eT1 (k := 0) rfl dX11_needGrotto_1 ?_
  refine lv_iload_n C.1.1 C.1.2.1 dX11_needGrotto_4 rfl (lv_at hl 1 rfl) ?_
  obtain ⟨q1, hq1, hF⟩ := bnd_some hF
  refine x_callVi C X (k := T1) xv_X11_366 hk_T1 rfl rfl (by decide) (kX9_isGrotto O.1.1 C.2.2.2.2.1 N T1 x1 (hk_T1 : xk T1 = 9) S q1 hq1) (Nat.le_of_ble_eq_true rfl) (Nat.le_of_ble_eq_true rfl) (Nat.le_of_ble_eq_true rfl) (Nat.le_of_ble_eq_true rfl) rfl hl.1 rfl (Nat.le_of_ble_eq_true rfl) dX11_needGrotto_5 (fun H locs X => ?_)
  refine lv_if_ne (tgt := 22) C.1.1 C.1.2.1 dX11_needGrotto_8 (by decide) (fun h_z => ?_) (fun h_z => ?_)
  · rw [if_neg h_z] at hF
    exact bX11_needGrotto_22 C O Tb X (lv_sub hl [] rfl) hF
  · rw [if_pos h_z] at hF
    exact bX11_needGrotto_11 C O Tb X (lv_sub hl [] rfl) hF
noncomputable def fX11_needGrotto (N : Nat) (x1 : Int32) (S : gS) : Option (tR) := fX11_needGrotto_b0 N x1 S
theorem kX11_needGrotto {l : Launch} {D : va_G} {g : Nat → Nat} {cI cB cZ cQ : ClassId} {Am : (Nat → Prop) → State → Heap → Prop} {aK aV : Nat → Nat} (O : tO l g cI cB cZ cQ Am aK aV) (P : gAm Am) (N : Nat) (x1 : Int32) (S : gS) (o : tR) (hF : fX11_needGrotto N x1 S = some o) : gN l yX11_needGrotto cX11_needGrotto 2 none 6 1 D (xtys cI cB cZ cQ) (xcell g cI cB cZ cQ) xord g Am [.ref (g 0), .int x1] S true o :=
  gN_of P (by decide) (Nat.le_of_ble_eq_true rfl) (fun p e s m args below meth c ls C Tb X hl => bX11_needGrotto_0 C O Tb X (lv_sub hl [0, 1] rfl) hF)
-- X11.needGuild
noncomputable def fX11_needGuild_b22 (N : Nat) (S : gS) : Option (tR) := some (0, 0, S)
theorem bX11_needGuild_22 {N : Nat} {S : gS} {H : Heap} {locs : List Loc} {ls : Array Slot} {o : tR} (C : gC p s m args meth c cX11_needGuild 2 RX11 none D (xtys cI cB cZ cQ) xord g Am) (O : tO l g cI cB cZ cQ Am aK aV) (Tb : ∀ x ∈ c.exceptionTable.toList, False) (X : gX D (xcell g cI cB cZ cQ) xord g S s H locs) (hl : lv_has ls 2 []) (hF : fX11_needGuild_b22 N S = some o) : W p l e (rmx 6 1) s m args below meth c H locs 0 0 (gEX below args s D (xtys cI cB cZ cQ) (xcell g cI cB cZ cQ) xord g 1 true o) (F0 m 22 ls []) := by
  unfold fX11_needGuild_b22 at hF
  cases hF
  exact t_vret C X (by decide) (by decide) dX11_needGuild_22
noncomputable def fX11_needGuild_b11 (N : Nat) (S : gS) : Option (tR) := some (1, 0, S)
theorem bX11_needGuild_11 {N : Nat} {S : gS} {H : Heap} {locs : List Loc} {ls : Array Slot} {o : tR} (C : gC p s m args meth c cX11_needGuild 2 RX11 none D (xtys cI cB cZ cQ) xord g Am) (O : tO l g cI cB cZ cQ Am aK aV) (Tb : ∀ x ∈ c.exceptionTable.toList, False) (X : gX D (xcell g cI cB cZ cQ) xord g S s H locs) (hl : lv_has ls 2 []) (hF : fX11_needGuild_b11 N S = some o) : W p l e (rmx 6 1) s m args below meth c H locs 0 0 (gEX below args s D (xtys cI cB cZ cQ) (xcell g cI cB cZ cQ) xord g 1 true o) (F0 m 11 ls []) := by
  unfold fX11_needGuild_b11 at hF
  cases hF
  exact t_newNW (ii := 22) C O Tb X hl.1 rfl dX11_needGuild_11 dX11_needGuild_14 dX11_needGuild_15 dX11_needGuild_18 dX11_needGuild_21 (Nat.le_of_ble_eq_true rfl) (Nat.le_of_ble_eq_true rfl) (Nat.le_of_ble_eq_true rfl) (Nat.le_of_ble_eq_true rfl) (by decide) (by decide)
noncomputable def fX11_needGuild_b0 (N : Nat) (x1 : Int32) (S : gS) : Option (tR) := lt (xtw S) fun T1 => (bnd (fX9_isGuild N T1 x1 S) fun q1 => (if q1.1 = 0 then fX11_needGuild_b11 N q1.2 else fX11_needGuild_b22 N q1.2))
theorem bX11_needGuild_0 {N : Nat} {x1 : Int32} {S : gS} {H : Heap} {locs : List Loc} {ls : Array Slot} {o : tR} (C : gC p s m args meth c cX11_needGuild 2 RX11 none D (xtys cI cB cZ cQ) xord g Am) (O : tO l g cI cB cZ cQ Am aK aV) (Tb : ∀ x ∈ c.exceptionTable.toList, False) (X : gX D (xcell g cI cB cZ cQ) xord g S s H locs) (hl : lv_has ls 2 [(0, .ref (g 0)), (1, .int x1)]) (hF : fX11_needGuild_b0 N x1 S = some o) : W p l e (rmx 6 1) s m args below meth c H locs 0 0 (gEX below args s D (xtys cI cB cZ cQ) (xcell g cI cB cZ cQ) xord g 1 true o) (F0 m 0 ls []) := by
  unfold fX11_needGuild_b0 at hF
  refine lv_aload_n C.1.1 C.1.2.1 dX11_needGuild_0 rfl (lv_at hl 0 rfl) ?_
  obtain ⟨T1, eT1, hF⟩ := lt_some hF
  have hk_T1 := xtw_k eT1
  refine xg_X11_57 C O.1.1 X (T := T1) eT1 (k := 0) rfl dX11_needGuild_1 ?_
  refine lv_iload_n C.1.1 C.1.2.1 dX11_needGuild_4 rfl (lv_at hl 1 rfl) ?_
  obtain ⟨q1, hq1, hF⟩ := bnd_some hF
  refine x_callVi C X (k := T1) xv_X11_371 hk_T1 rfl rfl (by decide) (kX9_isGuild O.1.1 C.2.2.2.2.1 N T1 x1 (hk_T1 : xk T1 = 9) S q1 hq1) (Nat.le_of_ble_eq_true rfl) (Nat.le_of_ble_eq_true rfl) (Nat.le_of_ble_eq_true rfl) (Nat.le_of_ble_eq_true rfl) rfl hl.1 rfl (Nat.le_of_ble_eq_true rfl) dX11_needGuild_5 (fun H locs X => ?_)
  refine lv_if_ne (tgt := 22) C.1.1 C.1.2.1 dX11_needGuild_8 (by decide) (fun h_z => ?_) (fun h_z => ?_)
  · rw [if_neg h_z] at hF
    exact bX11_needGuild_22 C O Tb X (lv_sub hl [] rfl) hF
  · rw [if_pos h_z] at hF
    exact bX11_needGuild_11 C O Tb X (lv_sub hl [] rfl) hF
noncomputable def fX11_needGuild (N : Nat) (x1 : Int32) (S : gS) : Option (tR) := fX11_needGuild_b0 N x1 S
theorem kX11_needGuild {l : Launch} {D : va_G} {g : Nat → Nat} {cI cB cZ cQ : ClassId} {Am : (Nat → Prop) → State → Heap → Prop} {aK aV : Nat → Nat} (O : tO l g cI cB cZ cQ Am aK aV) (P : gAm Am) (N : Nat) (x1 : Int32) (S : gS) (o : tR) (hF : fX11_needGuild N x1 S = some o) : gN l yX11_needGuild cX11_needGuild 2 none 6 1 D (xtys cI cB cZ cQ) (xcell g cI cB cZ cQ) xord g Am [.ref (g 0), .int x1] S true o :=
  gN_of P (by decide) (Nat.le_of_ble_eq_true rfl) (fun p e s m args below meth c ls C Tb X hl => bX11_needGuild_0 C O Tb X (lv_sub hl [0, 1] rfl) hF)
-- X11.needWhat
noncomputable def fX11_needWhat_b20 (N : Nat) (S : gS) : Option (tR) := some (0, 0, S)
theorem bX11_needWhat_20 {N : Nat} {S : gS} {H : Heap} {locs : List Loc} {ls : Array Slot} {o : tR} (C : gC p s m args meth c cX11_needWhat 2 RX11 none D (xtys cI cB cZ cQ) xord g Am) (O : tO l g cI cB cZ cQ Am aK aV) (Tb : ∀ x ∈ c.exceptionTable.toList, False) (X : gX D (xcell g cI cB cZ cQ) xord g S s H locs) (hl : lv_has ls 2 []) (hF : fX11_needWhat_b20 N S = some o) : W p l e (rmx 6 1) s m args below meth c H locs 0 0 (gEX below args s D (xtys cI cB cZ cQ) (xcell g cI cB cZ cQ) xord g 1 true o) (F0 m 20 ls []) := by
  unfold fX11_needWhat_b20 at hF
  cases hF
  exact t_vret C X (by decide) (by decide) dX11_needWhat_20
noncomputable def fX11_needWhat_b9 (N : Nat) (S : gS) : Option (tR) := some (1, 0, S)
theorem bX11_needWhat_9 {N : Nat} {S : gS} {H : Heap} {locs : List Loc} {ls : Array Slot} {o : tR} (C : gC p s m args meth c cX11_needWhat 2 RX11 none D (xtys cI cB cZ cQ) xord g Am) (O : tO l g cI cB cZ cQ Am aK aV) (Tb : ∀ x ∈ c.exceptionTable.toList, False) (X : gX D (xcell g cI cB cZ cQ) xord g S s H locs) (hl : lv_has ls 2 []) (hF : fX11_needWhat_b9 N S = some o) : W p l e (rmx 6 1) s m args below meth c H locs 0 0 (gEX below args s D (xtys cI cB cZ cQ) (xcell g cI cB cZ cQ) xord g 1 true o) (F0 m 9 ls []) := by
  unfold fX11_needWhat_b9 at hF
  cases hF
  exact t_newNW (ii := 24) C O Tb X hl.1 rfl dX11_needWhat_9 dX11_needWhat_12 dX11_needWhat_13 dX11_needWhat_16 dX11_needWhat_19 (Nat.le_of_ble_eq_true rfl) (Nat.le_of_ble_eq_true rfl) (Nat.le_of_ble_eq_true rfl) (Nat.le_of_ble_eq_true rfl) (by decide) (by decide)
noncomputable def fX11_needWhat_b0 (N : Nat) (x0 : Int32) (x1 : Int32) (S : gS) : Option (tR) := bnd (fX11_isWithin N x0 0 x1 S) fun q1 => (if q1.1 = 0 then fX11_needWhat_b9 N q1.2 else fX11_needWhat_b20 N q1.2)
theorem bX11_needWhat_0 {N : Nat} {x0 : Int32} {x1 : Int32} {S : gS} {H : Heap} {locs : List Loc} {ls : Array Slot} {o : tR} (C : gC p s m args meth c cX11_needWhat 2 RX11 none D (xtys cI cB cZ cQ) xord g Am) (O : tO l g cI cB cZ cQ Am aK aV) (Tb : ∀ x ∈ c.exceptionTable.toList, False) (X : gX D (xcell g cI cB cZ cQ) xord g S s H locs) (hl : lv_has ls 2 [(0, .int x0), (1, .int x1)]) (hF : fX11_needWhat_b0 N x0 x1 S = some o) : W p l e (rmx 6 1) s m args below meth c H locs 0 0 (gEX below args s D (xtys cI cB cZ cQ) (xcell g cI cB cZ cQ) xord g 1 true o) (F0 m 0 ls []) := by
  unfold fX11_needWhat_b0 at hF
  refine lv_iload_n C.1.1 C.1.2.1 dX11_needWhat_0 rfl (lv_at hl 0 rfl) ?_
  refine lv_iconst (v := 0) C.1.1 C.1.2.1 dX11_needWhat_1 (by decide) ?_
  refine lv_iload_n C.1.1 C.1.2.1 dX11_needWhat_2 rfl (lv_at hl 1 rfl) ?_
  obtain ⟨q1, hq1, hF⟩ := bnd_some hF
  refine g_callSi C X xv_X11_214 (kX11_isWithin O.1.1 C.2.2.2.2.1 N x0 0 x1 S q1 hq1) (Nat.le_of_ble_eq_true rfl) (Nat.le_of_ble_eq_true rfl) (Nat.le_of_ble_eq_true rfl) (Nat.le_of_ble_eq_true rfl) rfl hl.1 rfl (Nat.le_of_ble_eq_true rfl) dX11_needWhat_3 (fun H locs X => ?_)
  refine lv_if_ne (tgt := 20) C.1.1 C.1.2.1 dX11_needWhat_6 (by decide) (fun h_z => ?_) (fun h_z => ?_)
  · rw [if_neg h_z] at hF
    exact bX11_needWhat_20 C O Tb X (lv_sub hl [] rfl) hF
  · rw [if_pos h_z] at hF
    exact bX11_needWhat_9 C O Tb X (lv_sub hl [] rfl) hF
noncomputable def fX11_needWhat (N : Nat) (x0 : Int32) (x1 : Int32) (S : gS) : Option (tR) := fX11_needWhat_b0 N x0 x1 S
theorem kX11_needWhat {l : Launch} {D : va_G} {g : Nat → Nat} {cI cB cZ cQ : ClassId} {Am : (Nat → Prop) → State → Heap → Prop} {aK aV : Nat → Nat} (O : tO l g cI cB cZ cQ Am aK aV) (P : gAm Am) (N : Nat) (x0 : Int32) (x1 : Int32) (S : gS) (o : tR) (hF : fX11_needWhat N x0 x1 S = some o) : gN l yX11_needWhat cX11_needWhat 2 none 6 1 D (xtys cI cB cZ cQ) (xcell g cI cB cZ cQ) xord g Am [.int x0, .int x1] S true o :=
  gN_of P (by decide) (Nat.le_of_ble_eq_true rfl) (fun p e s m args below meth c ls C Tb X hl => bX11_needWhat_0 C O Tb X (lv_sub hl [0, 1] rfl) hF)
-- X11.needWithin
noncomputable def fX11_needWithin_b20 (N : Nat) (S : gS) : Option (tR) := some (0, 0, S)
theorem bX11_needWithin_20 {N : Nat} {S : gS} {H : Heap} {locs : List Loc} {ls : Array Slot} {o : tR} (C : gC p s m args meth c cX11_needWithin 3 RX11 none D (xtys cI cB cZ cQ) xord g Am) (O : tO l g cI cB cZ cQ Am aK aV) (Tb : ∀ x ∈ c.exceptionTable.toList, False) (X : gX D (xcell g cI cB cZ cQ) xord g S s H locs) (hl : lv_has ls 3 []) (hF : fX11_needWithin_b20 N S = some o) : W p l e (rmx 6 1) s m args below meth c H locs 0 0 (gEX below args s D (xtys cI cB cZ cQ) (xcell g cI cB cZ cQ) xord g 1 true o) (F0 m 20 ls []) := by
  unfold fX11_needWithin_b20 at hF
  cases hF
  exact t_vret C X (by decide) (by decide) dX11_needWithin_20
noncomputable def fX11_needWithin_b9 (N : Nat) (S : gS) : Option (tR) := some (2, 0, S)
theorem bX11_needWithin_9 {N : Nat} {S : gS} {H : Heap} {locs : List Loc} {ls : Array Slot} {o : tR} (C : gC p s m args meth c cX11_needWithin 3 RX11 none D (xtys cI cB cZ cQ) xord g Am) (O : tO l g cI cB cZ cQ Am aK aV) (Tb : ∀ x ∈ c.exceptionTable.toList, False) (X : gX D (xcell g cI cB cZ cQ) xord g S s H locs) (hl : lv_has ls 3 []) (hF : fX11_needWithin_b9 N S = some o) : W p l e (rmx 6 1) s m args below meth c H locs 0 0 (gEX below args s D (xtys cI cB cZ cQ) (xcell g cI cB cZ cQ) xord g 1 true o) (F0 m 9 ls []) := by
  unfold fX11_needWithin_b9 at hF
  cases hF
  exact t_newIW (ii := 25) C O Tb X hl.1 rfl dX11_needWithin_9 dX11_needWithin_12 dX11_needWithin_13 dX11_needWithin_16 dX11_needWithin_19 (Nat.le_of_ble_eq_true rfl) (Nat.le_of_ble_eq_true rfl) (Nat.le_of_ble_eq_true rfl) (Nat.le_of_ble_eq_true rfl) (by decide) (by decide)
noncomputable def fX11_needWithin_b0 (N : Nat) (x0 : Int32) (x1 : Int32) (x2 : Int32) (S : gS) : Option (tR) := bnd (fX11_isWithin N x0 x1 x2 S) fun q1 => (if q1.1 = 0 then fX11_needWithin_b9 N q1.2 else fX11_needWithin_b20 N q1.2)
theorem bX11_needWithin_0 {N : Nat} {x0 : Int32} {x1 : Int32} {x2 : Int32} {S : gS} {H : Heap} {locs : List Loc} {ls : Array Slot} {o : tR} (C : gC p s m args meth c cX11_needWithin 3 RX11 none D (xtys cI cB cZ cQ) xord g Am) (O : tO l g cI cB cZ cQ Am aK aV) (Tb : ∀ x ∈ c.exceptionTable.toList, False) (X : gX D (xcell g cI cB cZ cQ) xord g S s H locs) (hl : lv_has ls 3 [(0, .int x0), (1, .int x1), (2, .int x2)]) (hF : fX11_needWithin_b0 N x0 x1 x2 S = some o) : W p l e (rmx 6 1) s m args below meth c H locs 0 0 (gEX below args s D (xtys cI cB cZ cQ) (xcell g cI cB cZ cQ) xord g 1 true o) (F0 m 0 ls []) := by
  unfold fX11_needWithin_b0 at hF
  refine lv_iload_n C.1.1 C.1.2.1 dX11_needWithin_0 rfl (lv_at hl 0 rfl) ?_
  refine lv_iload_n C.1.1 C.1.2.1 dX11_needWithin_1 rfl (lv_at hl 1 rfl) ?_
  refine lv_iload_n C.1.1 C.1.2.1 dX11_needWithin_2 rfl (lv_at hl 2 rfl) ?_
  obtain ⟨q1, hq1, hF⟩ := bnd_some hF
  refine g_callSi C X xv_X11_214 (kX11_isWithin O.1.1 C.2.2.2.2.1 N x0 x1 x2 S q1 hq1) (Nat.le_of_ble_eq_true rfl) (Nat.le_of_ble_eq_true rfl) (Nat.le_of_ble_eq_true rfl) (Nat.le_of_ble_eq_true rfl) rfl hl.1 rfl (Nat.le_of_ble_eq_true rfl) dX11_needWithin_3 (fun H locs X => ?_)
  refine lv_if_ne (tgt := 20) C.1.1 C.1.2.1 dX11_needWithin_6 (by decide) (fun h_z => ?_) (fun h_z => ?_)
  · rw [if_neg h_z] at hF
    exact bX11_needWithin_20 C O Tb X (lv_sub hl [] rfl) hF
  · rw [if_pos h_z] at hF
    exact bX11_needWithin_9 C O Tb X (lv_sub hl [] rfl) hF
noncomputable def fX11_needWithin (N : Nat) (x0 : Int32) (x1 : Int32) (x2 : Int32) (S : gS) : Option (tR) := fX11_needWithin_b0 N x0 x1 x2 S
theorem kX11_needWithin {l : Launch} {D : va_G} {g : Nat → Nat} {cI cB cZ cQ : ClassId} {Am : (Nat → Prop) → State → Heap → Prop} {aK aV : Nat → Nat} (O : tO l g cI cB cZ cQ Am aK aV) (P : gAm Am) (N : Nat) (x0 : Int32) (x1 : Int32) (x2 : Int32) (S : gS) (o : tR) (hF : fX11_needWithin N x0 x1 x2 S = some o) : gN l yX11_needWithin cX11_needWithin 3 none 6 1 D (xtys cI cB cZ cQ) (xcell g cI cB cZ cQ) xord g Am [.int x0, .int x1, .int x2] S true o :=
  gN_of P (by decide) (Nat.le_of_ble_eq_true rfl) (fun p e s m args below meth c ls C Tb X hl => bX11_needWithin_0 C O Tb X (lv_sub hl [0, 1, 2] rfl) hF)
-- X11.needGrottoes
noncomputable def fX11_needGrottoes_b28 (N : Nat) (S : gS) : Option (tR) := some (0, 0, S)
theorem bX11_needGrottoes_28 {N : Nat} {S : gS} {H : Heap} {locs : List Loc} {ls : Array Slot} {o : tR} (C : gC p s m args meth c cX11_needGrottoes 2 RX11 none D (xtys cI cB cZ cQ) xord g Am) (O : tO l g cI cB cZ cQ Am aK aV) (Tb : ∀ x ∈ c.exceptionTable.toList, False) (X : gX D (xcell g cI cB cZ cQ) xord g S s H locs) (hl : lv_has ls 2 []) (hF : fX11_needGrottoes_b28 N S = some o) : W p l e (rmx 6 1) s m args below meth c H locs 0 0 (gEX below args s D (xtys cI cB cZ cQ) (xcell g cI cB cZ cQ) xord g 1 true o) (F0 m 28 ls []) := by
  unfold fX11_needGrottoes_b28 at hF
  cases hF
  exact t_vret C X (by decide) (by decide) dX11_needGrottoes_28
noncomputable def fX11_needGrottoes_b17 (N : Nat) (S : gS) : Option (tR) := some (2, 0, S)
theorem bX11_needGrottoes_17 {N : Nat} {S : gS} {H : Heap} {locs : List Loc} {ls : Array Slot} {o : tR} (C : gC p s m args meth c cX11_needGrottoes 2 RX11 none D (xtys cI cB cZ cQ) xord g Am) (O : tO l g cI cB cZ cQ Am aK aV) (Tb : ∀ x ∈ c.exceptionTable.toList, False) (X : gX D (xcell g cI cB cZ cQ) xord g S s H locs) (hl : lv_has ls 2 []) (hF : fX11_needGrottoes_b17 N S = some o) : W p l e (rmx 6 1) s m args below meth c H locs 0 0 (gEX below args s D (xtys cI cB cZ cQ) (xcell g cI cB cZ cQ) xord g 1 true o) (F0 m 17 ls []) := by
  unfold fX11_needGrottoes_b17 at hF
  cases hF
  exact t_newIW (ii := 26) C O Tb X hl.1 rfl dX11_needGrottoes_17 dX11_needGrottoes_20 dX11_needGrottoes_21 dX11_needGrottoes_24 dX11_needGrottoes_27 (Nat.le_of_ble_eq_true rfl) (Nat.le_of_ble_eq_true rfl) (Nat.le_of_ble_eq_true rfl) (Nat.le_of_ble_eq_true rfl) (by decide) (by decide)
noncomputable def fX11_needGrottoes_b4 (N : Nat) (x1 : Int32) (S : gS) : Option (tR) := lt (xtw S) fun T1 => (if x1 < (((1 : Int32) <<< ((S T1 0) &&& 31) : Int32)) then fX11_needGrottoes_b28 N S else fX11_needGrottoes_b17 N S)
theorem bX11_needGrottoes_4 {N : Nat} {x1 : Int32} {S : gS} {H : Heap} {locs : List Loc} {ls : Array Slot} {o : tR} (C : gC p s m args meth c cX11_needGrottoes 2 RX11 none D (xtys cI cB cZ cQ) xord g Am) (O : tO l g cI cB cZ cQ Am aK aV) (Tb : ∀ x ∈ c.exceptionTable.toList, False) (X : gX D (xcell g cI cB cZ cQ) xord g S s H locs) (hl : lv_has ls 2 [(0, .ref (g 0)), (1, .int x1)]) (hF : fX11_needGrottoes_b4 N x1 S = some o) : W p l e (rmx 6 1) s m args below meth c H locs 0 0 (gEX below args s D (xtys cI cB cZ cQ) (xcell g cI cB cZ cQ) xord g 1 true o) (F0 m 4 ls []) := by
  unfold fX11_needGrottoes_b4 at hF
  refine lv_iload_n C.1.1 C.1.2.1 dX11_needGrottoes_4 rfl (lv_at hl 1 rfl) ?_
  refine lv_iconst (v := 1) C.1.1 C.1.2.1 dX11_needGrottoes_5 (by decide) ?_
  refine lv_aload_n C.1.1 C.1.2.1 dX11_needGrottoes_6 rfl (lv_at hl 0 rfl) ?_
  obtain ⟨T1, eT1, hF⟩ := lt_some hF
  have hk_T1 := xtw_k eT1
  refine xg_X11_57 C O.1.1 X (T := T1) eT1 (k := 0) rfl dX11_needGrottoes_7 ?_
  refine xg_X11_108 C O.1.1 X (k := T1) hk_T1 dX11_needGrottoes_10 ?_
  refine lv_ishl C.1.1 C.1.2.1 dX11_needGrottoes_13 ?_
  refine lv_icmp_lt (tgt := 28) C.1.1 C.1.2.1 dX11_needGrottoes_14 (by decide) (fun h_z => ?_) (fun h_z => ?_)
  · rw [if_pos h_z] at hF
    exact bX11_needGrottoes_28 C O Tb X (lv_sub hl [] rfl) hF
  · rw [if_neg h_z] at hF
    exact bX11_needGrottoes_17 C O Tb X (lv_sub hl [] rfl) hF
noncomputable def fX11_needGrottoes_b0 (N : Nat) (x1 : Int32) (S : gS) : Option (tR) := if x1 < 0 then fX11_needGrottoes_b17 N S else fX11_needGrottoes_b4 N x1 S
theorem bX11_needGrottoes_0 {N : Nat} {x1 : Int32} {S : gS} {H : Heap} {locs : List Loc} {ls : Array Slot} {o : tR} (C : gC p s m args meth c cX11_needGrottoes 2 RX11 none D (xtys cI cB cZ cQ) xord g Am) (O : tO l g cI cB cZ cQ Am aK aV) (Tb : ∀ x ∈ c.exceptionTable.toList, False) (X : gX D (xcell g cI cB cZ cQ) xord g S s H locs) (hl : lv_has ls 2 [(0, .ref (g 0)), (1, .int x1)]) (hF : fX11_needGrottoes_b0 N x1 S = some o) : W p l e (rmx 6 1) s m args below meth c H locs 0 0 (gEX below args s D (xtys cI cB cZ cQ) (xcell g cI cB cZ cQ) xord g 1 true o) (F0 m 0 ls []) := by
  unfold fX11_needGrottoes_b0 at hF
  refine lv_iload_n C.1.1 C.1.2.1 dX11_needGrottoes_0 rfl (lv_at hl 1 rfl) ?_
  refine lv_if_lt (tgt := 17) C.1.1 C.1.2.1 dX11_needGrottoes_1 (by decide) (fun h_z => ?_) (fun h_z => ?_)
  · rw [if_pos h_z] at hF
    exact bX11_needGrottoes_17 C O Tb X (lv_sub hl [] rfl) hF
  · rw [if_neg h_z] at hF
    exact bX11_needGrottoes_4 C O Tb X (lv_sub hl [0, 1] rfl) hF
noncomputable def fX11_needGrottoes (N : Nat) (x1 : Int32) (S : gS) : Option (tR) := fX11_needGrottoes_b0 N x1 S
theorem kX11_needGrottoes {l : Launch} {D : va_G} {g : Nat → Nat} {cI cB cZ cQ : ClassId} {Am : (Nat → Prop) → State → Heap → Prop} {aK aV : Nat → Nat} (O : tO l g cI cB cZ cQ Am aK aV) (P : gAm Am) (N : Nat) (x1 : Int32) (S : gS) (o : tR) (hF : fX11_needGrottoes N x1 S = some o) : gN l yX11_needGrottoes cX11_needGrottoes 2 none 6 1 D (xtys cI cB cZ cQ) (xcell g cI cB cZ cQ) xord g Am [.ref (g 0), .int x1] S true o :=
  gN_of P (by decide) (Nat.le_of_ble_eq_true rfl) (fun p e s m args below meth c ls C Tb X hl => bX11_needGrottoes_0 C O Tb X (lv_sub hl [0, 1] rfl) hF)
-- X11.grotto
noncomputable def fX11_grotto_b138 (N : Nat) (S : gS) : Option (tR) := some (1, 0, S)
theorem bX11_grotto_138 {N : Nat} {S : gS} {H : Heap} {locs : List Loc} {ls : Array Slot} {o : tR} (C : gC p s m args meth c cX11_grotto 3 RX11 ((some .int)) D (xtys cI cB cZ cQ) xord g Am) (O : tO l g cI cB cZ cQ Am aK aV) (Tb : ∀ x ∈ c.exceptionTable.toList, False) (X : gX D (xcell g cI cB cZ cQ) xord g S s H locs) (hl : lv_has ls 3 []) (hF : fX11_grotto_b138 N S = some o) : W p l e (rmx 7 2) s m args below meth c H locs 1 6 (gEX below args s D (xtys cI cB cZ cQ) (xcell g cI cB cZ cQ) xord g 2 false o) (F0 m 138 ls []) := by
  unfold fX11_grotto_b138 at hF
  cases hF
  exact t_newN (ii := 21) C O Tb X hl.1 rfl dX11_grotto_138 dX11_grotto_141 dX11_grotto_142 dX11_grotto_144 dX11_grotto_147 (Nat.le_of_ble_eq_true rfl) (Nat.le_of_ble_eq_true rfl) (Nat.le_of_ble_eq_true rfl) (Nat.le_of_ble_eq_true rfl) (by decide) (by decide)
noncomputable def fX11_grotto_b132 (N : Nat) (x1 : Int32) (S : gS) : Option (tR) := bnd (fX11_nextDrip N x1 S) fun q1 => (some (0, q1.1, q1.2))
theorem bX11_grotto_132 {N : Nat} {x1 : Int32} {S : gS} {H : Heap} {locs : List Loc} {ls : Array Slot} {o : tR} (C : gC p s m args meth c cX11_grotto 3 RX11 ((some .int)) D (xtys cI cB cZ cQ) xord g Am) (O : tO l g cI cB cZ cQ Am aK aV) (Tb : ∀ x ∈ c.exceptionTable.toList, False) (X : gX D (xcell g cI cB cZ cQ) xord g S s H locs) (hl : lv_has ls 3 [(0, .ref (g 0)), (1, .int x1)]) (hF : fX11_grotto_b132 N x1 S = some o) : W p l e (rmx 7 2) s m args below meth c H locs 1 6 (gEX below args s D (xtys cI cB cZ cQ) (xcell g cI cB cZ cQ) xord g 2 false o) (F0 m 132 ls []) := by
  unfold fX11_grotto_b132 at hF
  refine lv_aload_n C.1.1 C.1.2.1 dX11_grotto_132 rfl (lv_at hl 0 rfl) ?_
  refine lv_iload_n C.1.1 C.1.2.1 dX11_grotto_133 rfl (lv_at hl 1 rfl) ?_
  obtain ⟨q1, hq1, hF⟩ := bnd_some hF
  refine x_callVi C X (k := 0) xv_X11_186 (rfl : xk 0 = 11) rfl rfl (by decide) (kX11_nextDrip O.1.1 C.2.2.2.2.1 N x1 S q1 hq1) (Nat.le_of_ble_eq_true rfl) (Nat.le_of_ble_eq_true rfl) (Nat.le_of_ble_eq_true rfl) (Nat.le_of_ble_eq_true rfl) rfl hl.1 rfl (Nat.le_of_ble_eq_true rfl) dX11_grotto_134 (fun H locs X => ?_)
  cases hF
  exact t_iret C X (by decide) (by decide) dX11_grotto_137
noncomputable def fX11_grotto_b116 (N : Nat) (x1 : Int32) (S : gS) : Option (tR) := lt (xtw S) fun T1 => (bnd (fX7_holderOf N 21 T1 x1 S) fun q1 => (some (0, q1.1, q1.2)))
theorem bX11_grotto_116 {N : Nat} {x1 : Int32} {S : gS} {H : Heap} {locs : List Loc} {ls : Array Slot} {o : tR} (C : gC p s m args meth c cX11_grotto 3 RX11 ((some .int)) D (xtys cI cB cZ cQ) xord g Am) (O : tO l g cI cB cZ cQ Am aK aV) (Tb : ∀ x ∈ c.exceptionTable.toList, False) (X : gX D (xcell g cI cB cZ cQ) xord g S s H locs) (hl : lv_has ls 3 [(0, .ref (g 0)), (1, .int x1)]) (hF : fX11_grotto_b116 N x1 S = some o) : W p l e (rmx 7 2) s m args below meth c H locs 1 6 (gEX below args s D (xtys cI cB cZ cQ) (xcell g cI cB cZ cQ) xord g 2 false o) (F0 m 116 ls []) := by
  unfold fX11_grotto_b116 at hF
  refine lv_aload_n C.1.1 C.1.2.1 dX11_grotto_116 rfl (lv_at hl 0 rfl) ?_
  refine xg_X11_19 C O.1.1 X (k := 0) rfl (j := 20) rfl dX11_grotto_117 ?_
  refine xg_X11_105 C O.1.1 X (k := 20) rfl (j := 21) rfl dX11_grotto_120 ?_
  refine lv_aload_n C.1.1 C.1.2.1 dX11_grotto_123 rfl (lv_at hl 0 rfl) ?_
  obtain ⟨T1, eT1, hF⟩ := lt_some hF
  have hk_T1 := xtw_k eT1
  refine xg_X11_57 C O.1.1 X (T := T1) eT1 (k := 0) rfl dX11_grotto_124 ?_
  refine lv_iload_n C.1.1 C.1.2.1 dX11_grotto_127 rfl (lv_at hl 1 rfl) ?_
  obtain ⟨q1, hq1, hF⟩ := bnd_some hF
  refine x_callVi C X (k := 21) xv_X11_182 (rfl : xk 21 = 7) rfl rfl (by decide) (kX7_holderOf O.1.1 C.2.2.2.2.1 N 21 T1 x1 (rfl : xk 21 = 7) (hk_T1 : xk T1 = 9) S q1 hq1) (Nat.le_of_ble_eq_true rfl) (Nat.le_of_ble_eq_true rfl) (Nat.le_of_ble_eq_true rfl) (Nat.le_of_ble_eq_true rfl) rfl hl.1 rfl (Nat.le_of_ble_eq_true rfl) dX11_grotto_128 (fun H locs X => ?_)
  cases hF
  exact t_iret C X (by decide) (by decide) dX11_grotto_131
noncomputable def fX11_grotto_b115 (N : Nat) (t0 : Int32) (S : gS) : Option (tR) := some (0, t0, S)
theorem bX11_grotto_115 {N : Nat} {t0 : Int32} {S : gS} {H : Heap} {locs : List Loc} {ls : Array Slot} {o : tR} (C : gC p s m args meth c cX11_grotto 3 RX11 ((some .int)) D (xtys cI cB cZ cQ) xord g Am) (O : tO l g cI cB cZ cQ Am aK aV) (Tb : ∀ x ∈ c.exceptionTable.toList, False) (X : gX D (xcell g cI cB cZ cQ) xord g S s H locs) (hl : lv_has ls 3 []) (hF : fX11_grotto_b115 N t0 S = some o) : W p l e (rmx 7 2) s m args below meth c H locs 1 6 (gEX below args s D (xtys cI cB cZ cQ) (xcell g cI cB cZ cQ) xord g 2 false o) (F0 m 115 ls [.int t0]) := by
  unfold fX11_grotto_b115 at hF
  cases hF
  exact t_iret C X (by decide) (by decide) dX11_grotto_115
noncomputable def fX11_grotto_b114 (N : Nat) (S : gS) : Option (tR) := fX11_grotto_b115 N 0 S
theorem bX11_grotto_114 {N : Nat} {S : gS} {H : Heap} {locs : List Loc} {ls : Array Slot} {o : tR} (C : gC p s m args meth c cX11_grotto 3 RX11 ((some .int)) D (xtys cI cB cZ cQ) xord g Am) (O : tO l g cI cB cZ cQ Am aK aV) (Tb : ∀ x ∈ c.exceptionTable.toList, False) (X : gX D (xcell g cI cB cZ cQ) xord g S s H locs) (hl : lv_has ls 3 []) (hF : fX11_grotto_b114 N S = some o) : W p l e (rmx 7 2) s m args below meth c H locs 1 6 (gEX below args s D (xtys cI cB cZ cQ) (xcell g cI cB cZ cQ) xord g 2 false o) (F0 m 114 ls []) := by
  unfold fX11_grotto_b114 at hF
  refine lv_iconst (v := 0) C.1.1 C.1.2.1 dX11_grotto_114 (by decide) ?_
  exact bX11_grotto_115 C O Tb X (lv_sub hl [] rfl) hF
noncomputable def fX11_grotto_b110 (N : Nat) (S : gS) : Option (tR) := fX11_grotto_b115 N 1 S
theorem bX11_grotto_110 {N : Nat} {S : gS} {H : Heap} {locs : List Loc} {ls : Array Slot} {o : tR} (C : gC p s m args meth c cX11_grotto 3 RX11 ((some .int)) D (xtys cI cB cZ cQ) xord g Am) (O : tO l g cI cB cZ cQ Am aK aV) (Tb : ∀ x ∈ c.exceptionTable.toList, False) (X : gX D (xcell g cI cB cZ cQ) xord g S s H locs) (hl : lv_has ls 3 []) (hF : fX11_grotto_b110 N S = some o) : W p l e (rmx 7 2) s m args below meth c H locs 1 6 (gEX below args s D (xtys cI cB cZ cQ) (xcell g cI cB cZ cQ) xord g 2 false o) (F0 m 110 ls []) := by
  unfold fX11_grotto_b110 at hF
  refine lv_iconst (v := 1) C.1.1 C.1.2.1 dX11_grotto_110 (by decide) ?_
  refine lv_goto (tgt := 115) C.1.1 C.1.2.1 dX11_grotto_111 (by decide) ?_
  exact bX11_grotto_115 C O Tb X (lv_sub hl [] rfl) hF
noncomputable def fX11_grotto_b96 (N : Nat) (x1 : Int32) (S : gS) : Option (tR) := bnd (fX7_isDrained N 21 x1 S) fun q1 => (if q1.1 = 0 then fX11_grotto_b114 N q1.2 else fX11_grotto_b110 N q1.2)
theorem bX11_grotto_96 {N : Nat} {x1 : Int32} {S : gS} {H : Heap} {locs : List Loc} {ls : Array Slot} {o : tR} (C : gC p s m args meth c cX11_grotto 3 RX11 ((some .int)) D (xtys cI cB cZ cQ) xord g Am) (O : tO l g cI cB cZ cQ Am aK aV) (Tb : ∀ x ∈ c.exceptionTable.toList, False) (X : gX D (xcell g cI cB cZ cQ) xord g S s H locs) (hl : lv_has ls 3 [(0, .ref (g 0)), (1, .int x1)]) (hF : fX11_grotto_b96 N x1 S = some o) : W p l e (rmx 7 2) s m args below meth c H locs 1 6 (gEX below args s D (xtys cI cB cZ cQ) (xcell g cI cB cZ cQ) xord g 2 false o) (F0 m 96 ls []) := by
  unfold fX11_grotto_b96 at hF
  refine lv_aload_n C.1.1 C.1.2.1 dX11_grotto_96 rfl (lv_at hl 0 rfl) ?_
  refine xg_X11_19 C O.1.1 X (k := 0) rfl (j := 20) rfl dX11_grotto_97 ?_
  refine xg_X11_105 C O.1.1 X (k := 20) rfl (j := 21) rfl dX11_grotto_100 ?_
  refine lv_iload_n C.1.1 C.1.2.1 dX11_grotto_103 rfl (lv_at hl 1 rfl) ?_
  obtain ⟨q1, hq1, hF⟩ := bnd_some hF
  refine x_callVi C X (k := 21) xv_X11_178 (rfl : xk 21 = 7) rfl rfl (by decide) (kX7_isDrained O.1.1 C.2.2.2.2.1 N 21 x1 (rfl : xk 21 = 7) S q1 hq1) (Nat.le_of_ble_eq_true rfl) (Nat.le_of_ble_eq_true rfl) (Nat.le_of_ble_eq_true rfl) (Nat.le_of_ble_eq_true rfl) rfl hl.1 rfl (Nat.le_of_ble_eq_true rfl) dX11_grotto_104 (fun H locs X => ?_)
  refine lv_if_eq (tgt := 114) C.1.1 C.1.2.1 dX11_grotto_107 (by decide) (fun h_z => ?_) (fun h_z => ?_)
  · rw [if_pos h_z] at hF
    exact bX11_grotto_114 C O Tb X (lv_sub hl [] rfl) hF
  · rw [if_neg h_z] at hF
    exact bX11_grotto_110 C O Tb X (lv_sub hl [] rfl) hF
noncomputable def fX11_grotto_b95 (N : Nat) (t0 : Int32) (S : gS) : Option (tR) := some (0, t0, S)
theorem bX11_grotto_95 {N : Nat} {t0 : Int32} {S : gS} {H : Heap} {locs : List Loc} {ls : Array Slot} {o : tR} (C : gC p s m args meth c cX11_grotto 3 RX11 ((some .int)) D (xtys cI cB cZ cQ) xord g Am) (O : tO l g cI cB cZ cQ Am aK aV) (Tb : ∀ x ∈ c.exceptionTable.toList, False) (X : gX D (xcell g cI cB cZ cQ) xord g S s H locs) (hl : lv_has ls 3 []) (hF : fX11_grotto_b95 N t0 S = some o) : W p l e (rmx 7 2) s m args below meth c H locs 1 6 (gEX below args s D (xtys cI cB cZ cQ) (xcell g cI cB cZ cQ) xord g 2 false o) (F0 m 95 ls [.int t0]) := by
  unfold fX11_grotto_b95 at hF
  cases hF
  exact t_iret C X (by decide) (by decide) dX11_grotto_95
noncomputable def fX11_grotto_b94 (N : Nat) (S : gS) : Option (tR) := fX11_grotto_b95 N 0 S
theorem bX11_grotto_94 {N : Nat} {S : gS} {H : Heap} {locs : List Loc} {ls : Array Slot} {o : tR} (C : gC p s m args meth c cX11_grotto 3 RX11 ((some .int)) D (xtys cI cB cZ cQ) xord g Am) (O : tO l g cI cB cZ cQ Am aK aV) (Tb : ∀ x ∈ c.exceptionTable.toList, False) (X : gX D (xcell g cI cB cZ cQ) xord g S s H locs) (hl : lv_has ls 3 []) (hF : fX11_grotto_b94 N S = some o) : W p l e (rmx 7 2) s m args below meth c H locs 1 6 (gEX below args s D (xtys cI cB cZ cQ) (xcell g cI cB cZ cQ) xord g 2 false o) (F0 m 94 ls []) := by
  unfold fX11_grotto_b94 at hF
  refine lv_iconst (v := 0) C.1.1 C.1.2.1 dX11_grotto_94 (by decide) ?_
  exact bX11_grotto_95 C O Tb X (lv_sub hl [] rfl) hF
noncomputable def fX11_grotto_b90 (N : Nat) (S : gS) : Option (tR) := fX11_grotto_b95 N 1 S
theorem bX11_grotto_90 {N : Nat} {S : gS} {H : Heap} {locs : List Loc} {ls : Array Slot} {o : tR} (C : gC p s m args meth c cX11_grotto 3 RX11 ((some .int)) D (xtys cI cB cZ cQ) xord g Am) (O : tO l g cI cB cZ cQ Am aK aV) (Tb : ∀ x ∈ c.exceptionTable.toList, False) (X : gX D (xcell g cI cB cZ cQ) xord g S s H locs) (hl : lv_has ls 3 []) (hF : fX11_grotto_b90 N S = some o) : W p l e (rmx 7 2) s m args below meth c H locs 1 6 (gEX below args s D (xtys cI cB cZ cQ) (xcell g cI cB cZ cQ) xord g 2 false o) (F0 m 90 ls []) := by
  unfold fX11_grotto_b90 at hF
  refine lv_iconst (v := 1) C.1.1 C.1.2.1 dX11_grotto_90 (by decide) ?_
  refine lv_goto (tgt := 95) C.1.1 C.1.2.1 dX11_grotto_91 (by decide) ?_
  exact bX11_grotto_95 C O Tb X (lv_sub hl [] rfl) hF
noncomputable def fX11_grotto_b78 (N : Nat) (x1 : Int32) (S : gS) : Option (tR) := lt (xtw S) fun T1 => (chk (inb x1 8) (if (S (T1 + 4) (Int32.toNatClampNeg x1)) = 0 then fX11_grotto_b94 N S else fX11_grotto_b90 N S))
theorem bX11_grotto_78 {N : Nat} {x1 : Int32} {S : gS} {H : Heap} {locs : List Loc} {ls : Array Slot} {o : tR} (C : gC p s m args meth c cX11_grotto 3 RX11 ((some .int)) D (xtys cI cB cZ cQ) xord g Am) (O : tO l g cI cB cZ cQ Am aK aV) (Tb : ∀ x ∈ c.exceptionTable.toList, False) (X : gX D (xcell g cI cB cZ cQ) xord g S s H locs) (hl : lv_has ls 3 [(0, .ref (g 0)), (1, .int x1)]) (hF : fX11_grotto_b78 N x1 S = some o) : W p l e (rmx 7 2) s m args below meth c H locs 1 6 (gEX below args s D (xtys cI cB cZ cQ) (xcell g cI cB cZ cQ) xord g 2 false o) (F0 m 78 ls []) := by
  unfold fX11_grotto_b78 at hF
  refine lv_aload_n C.1.1 C.1.2.1 dX11_grotto_78 rfl (lv_at hl 0 rfl) ?_
  obtain ⟨T1, eT1, hF⟩ := lt_some hF
  have hk_T1 := xtw_k eT1
  refine xg_X11_57 C O.1.1 X (T := T1) eT1 (k := 0) rfl dX11_grotto_79 ?_
  refine xg_X11_174 C O.1.1 X (k := T1) hk_T1 (j := T1 + 4) rfl dX11_grotto_82 ?_
  refine lv_iload_n C.1.1 C.1.2.1 dX11_grotto_85 rfl (lv_at hl 1 rfl) ?_
  obtain ⟨h_1, hF⟩ := chk_some hF
  refine x_rZ C X (k := T1 + 4) (xs_9_4 hk_T1).1 (n := 8) (xs_9_4 hk_T1).2  (inb_vp h_1) rfl dX11_grotto_86 ?_
  refine lv_if_eq (tgt := 94) C.1.1 C.1.2.1 dX11_grotto_87 (by decide) (fun h_z => ?_) (fun h_z => ?_)
  · rw [if_pos h_z] at hF
    exact bX11_grotto_94 C O Tb X (lv_sub hl [] rfl) hF
  · rw [if_neg h_z] at hF
    exact bX11_grotto_90 C O Tb X (lv_sub hl [] rfl) hF
noncomputable def fX11_grotto_b68 (N : Nat) (x1 : Int32) (S : gS) : Option (tR) := lt (xtw S) fun T1 => (chk (inb x1 8) (some (0, S (T1 + 3) (Int32.toNatClampNeg x1), S)))
theorem bX11_grotto_68 {N : Nat} {x1 : Int32} {S : gS} {H : Heap} {locs : List Loc} {ls : Array Slot} {o : tR} (C : gC p s m args meth c cX11_grotto 3 RX11 ((some .int)) D (xtys cI cB cZ cQ) xord g Am) (O : tO l g cI cB cZ cQ Am aK aV) (Tb : ∀ x ∈ c.exceptionTable.toList, False) (X : gX D (xcell g cI cB cZ cQ) xord g S s H locs) (hl : lv_has ls 3 [(0, .ref (g 0)), (1, .int x1)]) (hF : fX11_grotto_b68 N x1 S = some o) : W p l e (rmx 7 2) s m args below meth c H locs 1 6 (gEX below args s D (xtys cI cB cZ cQ) (xcell g cI cB cZ cQ) xord g 2 false o) (F0 m 68 ls []) := by
  unfold fX11_grotto_b68 at hF
  refine lv_aload_n C.1.1 C.1.2.1 dX11_grotto_68 rfl (lv_at hl 0 rfl) ?_
  obtain ⟨T1, eT1, hF⟩ := lt_some hF
  have hk_T1 := xtw_k eT1
  refine xg_X11_57 C O.1.1 X (T := T1) eT1 (k := 0) rfl dX11_grotto_69 ?_
  refine xg_X11_171 C O.1.1 X (k := T1) hk_T1 (j := T1 + 3) rfl dX11_grotto_72 ?_
  refine lv_iload_n C.1.1 C.1.2.1 dX11_grotto_75 rfl (lv_at hl 1 rfl) ?_
  obtain ⟨h_1, hF⟩ := chk_some hF
  refine x_rI C X (k := T1 + 3) (xs_9_3 hk_T1).1 (n := 8) (xs_9_3 hk_T1).2  (inb_vp h_1) rfl dX11_grotto_76 ?_
  cases hF
  exact t_iret C X (by decide) (by decide) dX11_grotto_77
noncomputable def fX11_grotto_b58 (N : Nat) (x1 : Int32) (S : gS) : Option (tR) := lt (xtw S) fun T1 => (chk (inb x1 8) (some (0, S (T1 + 2) (Int32.toNatClampNeg x1), S)))
theorem bX11_grotto_58 {N : Nat} {x1 : Int32} {S : gS} {H : Heap} {locs : List Loc} {ls : Array Slot} {o : tR} (C : gC p s m args meth c cX11_grotto 3 RX11 ((some .int)) D (xtys cI cB cZ cQ) xord g Am) (O : tO l g cI cB cZ cQ Am aK aV) (Tb : ∀ x ∈ c.exceptionTable.toList, False) (X : gX D (xcell g cI cB cZ cQ) xord g S s H locs) (hl : lv_has ls 3 [(0, .ref (g 0)), (1, .int x1)]) (hF : fX11_grotto_b58 N x1 S = some o) : W p l e (rmx 7 2) s m args below meth c H locs 1 6 (gEX below args s D (xtys cI cB cZ cQ) (xcell g cI cB cZ cQ) xord g 2 false o) (F0 m 58 ls []) := by
  unfold fX11_grotto_b58 at hF
  refine lv_aload_n C.1.1 C.1.2.1 dX11_grotto_58 rfl (lv_at hl 0 rfl) ?_
  obtain ⟨T1, eT1, hF⟩ := lt_some hF
  have hk_T1 := xtw_k eT1
  refine xg_X11_57 C O.1.1 X (T := T1) eT1 (k := 0) rfl dX11_grotto_59 ?_
  refine xg_X11_168 C O.1.1 X (k := T1) hk_T1 (j := T1 + 2) rfl dX11_grotto_62 ?_
  refine lv_iload_n C.1.1 C.1.2.1 dX11_grotto_65 rfl (lv_at hl 1 rfl) ?_
  obtain ⟨h_1, hF⟩ := chk_some hF
  refine x_rI C X (k := T1 + 2) (xs_9_2 hk_T1).1 (n := 8) (xs_9_2 hk_T1).2  (inb_vp h_1) rfl dX11_grotto_66 ?_
  cases hF
  exact t_iret C X (by decide) (by decide) dX11_grotto_67
noncomputable def fX11_grotto_b48 (N : Nat) (x1 : Int32) (S : gS) : Option (tR) := lt (xtw S) fun T1 => (chk (inb x1 8) (some (0, S (T1 + 1) (Int32.toNatClampNeg x1), S)))
theorem bX11_grotto_48 {N : Nat} {x1 : Int32} {S : gS} {H : Heap} {locs : List Loc} {ls : Array Slot} {o : tR} (C : gC p s m args meth c cX11_grotto 3 RX11 ((some .int)) D (xtys cI cB cZ cQ) xord g Am) (O : tO l g cI cB cZ cQ Am aK aV) (Tb : ∀ x ∈ c.exceptionTable.toList, False) (X : gX D (xcell g cI cB cZ cQ) xord g S s H locs) (hl : lv_has ls 3 [(0, .ref (g 0)), (1, .int x1)]) (hF : fX11_grotto_b48 N x1 S = some o) : W p l e (rmx 7 2) s m args below meth c H locs 1 6 (gEX below args s D (xtys cI cB cZ cQ) (xcell g cI cB cZ cQ) xord g 2 false o) (F0 m 48 ls []) := by
  unfold fX11_grotto_b48 at hF
  refine lv_aload_n C.1.1 C.1.2.1 dX11_grotto_48 rfl (lv_at hl 0 rfl) ?_
  obtain ⟨T1, eT1, hF⟩ := lt_some hF
  have hk_T1 := xtw_k eT1
  refine xg_X11_57 C O.1.1 X (T := T1) eT1 (k := 0) rfl dX11_grotto_49 ?_
  refine xg_X11_165 C O.1.1 X (k := T1) hk_T1 (j := T1 + 1) rfl dX11_grotto_52 ?_
  refine lv_iload_n C.1.1 C.1.2.1 dX11_grotto_55 rfl (lv_at hl 1 rfl) ?_
  obtain ⟨h_1, hF⟩ := chk_some hF
  refine x_rI C X (k := T1 + 1) (xs_9_1 hk_T1).1 (n := 8) (xs_9_1 hk_T1).2  (inb_vp h_1) rfl dX11_grotto_56 ?_
  cases hF
  exact t_iret C X (by decide) (by decide) dX11_grotto_57
noncomputable def fX11_grotto_b0 (N : Nat) (x1 : Int32) (x2 : Int32) (S : gS) : Option (tR) := bnx (fX11_needGrotto N x1 S) fun q1 => (if x2 = 0 then fX11_grotto_b48 N x1 q1.2.2 else if x2 = 1 then fX11_grotto_b58 N x1 q1.2.2 else if x2 = 2 then fX11_grotto_b68 N x1 q1.2.2 else if x2 = 3 then fX11_grotto_b78 N x1 q1.2.2 else if x2 = 4 then fX11_grotto_b96 N x1 q1.2.2 else if x2 = 5 then fX11_grotto_b116 N x1 q1.2.2 else if x2 = 6 then fX11_grotto_b132 N x1 q1.2.2 else fX11_grotto_b138 N q1.2.2)
theorem bX11_grotto_0 {N : Nat} {x1 : Int32} {x2 : Int32} {S : gS} {H : Heap} {locs : List Loc} {ls : Array Slot} {o : tR} (C : gC p s m args meth c cX11_grotto 3 RX11 ((some .int)) D (xtys cI cB cZ cQ) xord g Am) (O : tO l g cI cB cZ cQ Am aK aV) (Tb : ∀ x ∈ c.exceptionTable.toList, False) (X : gX D (xcell g cI cB cZ cQ) xord g S s H locs) (hl : lv_has ls 3 [(0, .ref (g 0)), (1, .int x1), (2, .int x2)]) (hF : fX11_grotto_b0 N x1 x2 S = some o) : W p l e (rmx 7 2) s m args below meth c H locs 0 0 (gEX below args s D (xtys cI cB cZ cQ) (xcell g cI cB cZ cQ) xord g 2 false o) (F0 m 0 ls []) := by
  unfold fX11_grotto_b0 at hF
  refine lv_aload_n C.1.1 C.1.2.1 dX11_grotto_0 rfl (lv_at hl 0 rfl) ?_
  refine lv_iload_n C.1.1 C.1.2.1 dX11_grotto_1 rfl (lv_at hl 1 rfl) ?_
  rcases (bnx_some hF).symm with ⟨q1, hq1, zq1, eo⟩ | ⟨q1, hq1, zq1, hF⟩
  · subst eo
    exact t_thr (x_preT C X xv_X11_162 rfl (kX11_needGrotto O C.2.2.2.2.1 N x1 S q1 hq1) (Nat.le_of_ble_eq_true rfl) (Nat.le_of_ble_eq_true rfl) (Nat.le_of_ble_eq_true rfl) (Nat.le_of_ble_eq_true rfl) rfl hl.1 rfl (Nat.le_of_ble_eq_true rfl) dX11_grotto_2) zq1 C Tb X (by decide) (by decide)
  refine t_okv (x_preT C X xv_X11_162 rfl (kX11_needGrotto O C.2.2.2.2.1 N x1 S q1 hq1) (Nat.le_of_ble_eq_true rfl) (Nat.le_of_ble_eq_true rfl) (Nat.le_of_ble_eq_true rfl) (Nat.le_of_ble_eq_true rfl) rfl hl.1 rfl (Nat.le_of_ble_eq_true rfl) dX11_grotto_2) zq1 X (fun H locs X => ?_)
  refine W.widen (k := 1) (n := 6) (by decide) (by decide) ?_
  refine lv_iload_n C.1.1 C.1.2.1 dX11_grotto_5 rfl (lv_at hl 2 rfl) ?_
  by_cases hz_0 : x2 = 0
  · rw [if_pos hz_0] at hF
    refine lv_tableIn (off := 42) (tgt := 48) C.1.1 C.1.2.1 dX11_grotto_6 (by rw [hz_0]; decide) (by rw [hz_0]; decide) (by rw [hz_0]; decide) (by decide) ?_
    exact bX11_grotto_48 C O Tb X (lv_sub hl [0, 1] rfl) hF
  rw [if_neg hz_0] at hF
  by_cases hz_1 : x2 = 1
  · rw [if_pos hz_1] at hF
    refine lv_tableIn (off := 52) (tgt := 58) C.1.1 C.1.2.1 dX11_grotto_6 (by rw [hz_1]; decide) (by rw [hz_1]; decide) (by rw [hz_1]; decide) (by decide) ?_
    exact bX11_grotto_58 C O Tb X (lv_sub hl [0, 1] rfl) hF
  rw [if_neg hz_1] at hF
  by_cases hz_2 : x2 = 2
  · rw [if_pos hz_2] at hF
    refine lv_tableIn (off := 62) (tgt := 68) C.1.1 C.1.2.1 dX11_grotto_6 (by rw [hz_2]; decide) (by rw [hz_2]; decide) (by rw [hz_2]; decide) (by decide) ?_
    exact bX11_grotto_68 C O Tb X (lv_sub hl [0, 1] rfl) hF
  rw [if_neg hz_2] at hF
  by_cases hz_3 : x2 = 3
  · rw [if_pos hz_3] at hF
    refine lv_tableIn (off := 72) (tgt := 78) C.1.1 C.1.2.1 dX11_grotto_6 (by rw [hz_3]; decide) (by rw [hz_3]; decide) (by rw [hz_3]; decide) (by decide) ?_
    exact bX11_grotto_78 C O Tb X (lv_sub hl [0, 1] rfl) hF
  rw [if_neg hz_3] at hF
  by_cases hz_4 : x2 = 4
  · rw [if_pos hz_4] at hF
    refine lv_tableIn (off := 90) (tgt := 96) C.1.1 C.1.2.1 dX11_grotto_6 (by rw [hz_4]; decide) (by rw [hz_4]; decide) (by rw [hz_4]; decide) (by decide) ?_
    exact bX11_grotto_96 C O Tb X (lv_sub hl [0, 1] rfl) hF
  rw [if_neg hz_4] at hF
  by_cases hz_5 : x2 = 5
  · rw [if_pos hz_5] at hF
    refine lv_tableIn (off := 110) (tgt := 116) C.1.1 C.1.2.1 dX11_grotto_6 (by rw [hz_5]; decide) (by rw [hz_5]; decide) (by rw [hz_5]; decide) (by decide) ?_
    exact bX11_grotto_116 C O Tb X (lv_sub hl [0, 1] rfl) hF
  rw [if_neg hz_5] at hF
  by_cases hz_6 : x2 = 6
  · rw [if_pos hz_6] at hF
    refine lv_tableIn (off := 126) (tgt := 132) C.1.1 C.1.2.1 dX11_grotto_6 (by rw [hz_6]; decide) (by rw [hz_6]; decide) (by rw [hz_6]; decide) (by decide) ?_
    exact bX11_grotto_132 C O Tb X (lv_sub hl [0, 1] rfl) hF
  rw [if_neg hz_6] at hF
  refine lv_tableOut (tgt := 138) C.1.1 C.1.2.1 dX11_grotto_6 (g_tsw 0 6 _ ?_) (by decide) ?_
  · intro i hi1 hi2
    rcases (show i = 0 ∨ i = 1 ∨ i = 2 ∨ i = 3 ∨ i = 4 ∨ i = 5 ∨ i = 6 by omega) with rfl | rfl | rfl | rfl | rfl | rfl | rfl
    · exact hz_0
    · exact hz_1
    · exact hz_2
    · exact hz_3
    · exact hz_4
    · exact hz_5
    · exact hz_6
  exact bX11_grotto_138 C O Tb X (lv_sub hl [] rfl) hF
noncomputable def fX11_grotto (N : Nat) (x1 : Int32) (x2 : Int32) (S : gS) : Option (tR) := fX11_grotto_b0 N x1 x2 S
theorem kX11_grotto {l : Launch} {D : va_G} {g : Nat → Nat} {cI cB cZ cQ : ClassId} {Am : (Nat → Prop) → State → Heap → Prop} {aK aV : Nat → Nat} (O : tO l g cI cB cZ cQ Am aK aV) (P : gAm Am) (N : Nat) (x1 : Int32) (x2 : Int32) (S : gS) (o : tR) (hF : fX11_grotto N x1 x2 S = some o) : gN l yX11_grotto cX11_grotto 3 ((some .int)) 7 2 D (xtys cI cB cZ cQ) (xcell g cI cB cZ cQ) xord g Am [.ref (g 0), .int x1, .int x2] S false o :=
  gN_of P (by decide) (Nat.le_of_ble_eq_true rfl) (fun p e s m args below meth c ls C Tb X hl => bX11_grotto_0 C O Tb X (lv_sub hl [0, 1, 2] rfl) hF)
-- X11.guild
noncomputable def fX11_guild_b96 (N : Nat) (S : gS) : Option (tR) := some (1, 0, S)
theorem bX11_guild_96 {N : Nat} {S : gS} {H : Heap} {locs : List Loc} {ls : Array Slot} {o : tR} (C : gC p s m args meth c cX11_guild 4 RX11 ((some .int)) D (xtys cI cB cZ cQ) xord g Am) (O : tO l g cI cB cZ cQ Am aK aV) (Tb : ∀ x ∈ c.exceptionTable.toList, False) (X : gX D (xcell g cI cB cZ cQ) xord g S s H locs) (hl : lv_has ls 4 []) (hF : fX11_guild_b96 N S = some o) : W p l e (rmx 7 2) s m args below meth c H locs 1 6 (gEX below args s D (xtys cI cB cZ cQ) (xcell g cI cB cZ cQ) xord g 2 false o) (F0 m 96 ls []) := by
  unfold fX11_guild_b96 at hF
  cases hF
  exact t_newN (ii := 23) C O Tb X hl.1 rfl dX11_guild_96 dX11_guild_99 dX11_guild_100 dX11_guild_102 dX11_guild_105 (Nat.le_of_ble_eq_true rfl) (Nat.le_of_ble_eq_true rfl) (Nat.le_of_ble_eq_true rfl) (Nat.le_of_ble_eq_true rfl) (by decide) (by decide)
noncomputable def fX11_guild_b90 (N : Nat) (x1 : Int32) (S : gS) : Option (tR) := bnd (fX11_costNow N x1 S) fun q1 => (some (0, q1.1, q1.2))
theorem bX11_guild_90 {N : Nat} {x1 : Int32} {S : gS} {H : Heap} {locs : List Loc} {ls : Array Slot} {o : tR} (C : gC p s m args meth c cX11_guild 4 RX11 ((some .int)) D (xtys cI cB cZ cQ) xord g Am) (O : tO l g cI cB cZ cQ Am aK aV) (Tb : ∀ x ∈ c.exceptionTable.toList, False) (X : gX D (xcell g cI cB cZ cQ) xord g S s H locs) (hl : lv_has ls 4 [(0, .ref (g 0)), (1, .int x1)]) (hF : fX11_guild_b90 N x1 S = some o) : W p l e (rmx 7 2) s m args below meth c H locs 1 6 (gEX below args s D (xtys cI cB cZ cQ) (xcell g cI cB cZ cQ) xord g 2 false o) (F0 m 90 ls []) := by
  unfold fX11_guild_b90 at hF
  refine lv_aload_n C.1.1 C.1.2.1 dX11_guild_90 rfl (lv_at hl 0 rfl) ?_
  refine lv_iload_n C.1.1 C.1.2.1 dX11_guild_91 rfl (lv_at hl 1 rfl) ?_
  obtain ⟨q1, hq1, hF⟩ := bnd_some hF
  refine x_callVi C X (k := 0) xv_X11_209 (rfl : xk 0 = 11) rfl rfl (by decide) (kX11_costNow O.1.1 C.2.2.2.2.1 N x1 S q1 hq1) (Nat.le_of_ble_eq_true rfl) (Nat.le_of_ble_eq_true rfl) (Nat.le_of_ble_eq_true rfl) (Nat.le_of_ble_eq_true rfl) rfl hl.1 rfl (Nat.le_of_ble_eq_true rfl) dX11_guild_92 (fun H locs X => ?_)
  cases hF
  exact t_iret C X (by decide) (by decide) dX11_guild_95
noncomputable def fX11_guild_b83 (N : Nat) (x1 : Int32) (S : gS) : Option (tR) := chk (inb x1 6) (some (0, S 25 (Int32.toNatClampNeg x1), S))
theorem bX11_guild_83 {N : Nat} {x1 : Int32} {S : gS} {H : Heap} {locs : List Loc} {ls : Array Slot} {o : tR} (C : gC p s m args meth c cX11_guild 4 RX11 ((some .int)) D (xtys cI cB cZ cQ) xord g Am) (O : tO l g cI cB cZ cQ Am aK aV) (Tb : ∀ x ∈ c.exceptionTable.toList, False) (X : gX D (xcell g cI cB cZ cQ) xord g S s H locs) (hl : lv_has ls 4 [(1, .int x1), (3, .ref (g 21))]) (hF : fX11_guild_b83 N x1 S = some o) : W p l e (rmx 7 2) s m args below meth c H locs 1 6 (gEX below args s D (xtys cI cB cZ cQ) (xcell g cI cB cZ cQ) xord g 2 false o) (F0 m 83 ls []) := by
  unfold fX11_guild_b83 at hF
  refine lv_aload_n C.1.1 C.1.2.1 dX11_guild_83 rfl (lv_at hl 1 rfl) ?_
  refine xg_X11_206 C O.1.1 X (k := 21) rfl (j := 25) rfl dX11_guild_84 ?_
  refine lv_iload_n C.1.1 C.1.2.1 dX11_guild_87 rfl (lv_at hl 0 rfl) ?_
  obtain ⟨h_1, hF⟩ := chk_some hF
  refine x_rI C X (k := 25) rfl (n := 6) rfl  (inb_vp h_1) rfl dX11_guild_88 ?_
  cases hF
  exact t_iret C X (by decide) (by decide) dX11_guild_89
noncomputable def fX11_guild_b76 (N : Nat) (x1 : Int32) (S : gS) : Option (tR) := chk (inb x1 6) (some (0, S 24 (Int32.toNatClampNeg x1), S))
theorem bX11_guild_76 {N : Nat} {x1 : Int32} {S : gS} {H : Heap} {locs : List Loc} {ls : Array Slot} {o : tR} (C : gC p s m args meth c cX11_guild 4 RX11 ((some .int)) D (xtys cI cB cZ cQ) xord g Am) (O : tO l g cI cB cZ cQ Am aK aV) (Tb : ∀ x ∈ c.exceptionTable.toList, False) (X : gX D (xcell g cI cB cZ cQ) xord g S s H locs) (hl : lv_has ls 4 [(1, .int x1), (3, .ref (g 21))]) (hF : fX11_guild_b76 N x1 S = some o) : W p l e (rmx 7 2) s m args below meth c H locs 1 6 (gEX below args s D (xtys cI cB cZ cQ) (xcell g cI cB cZ cQ) xord g 2 false o) (F0 m 76 ls []) := by
  unfold fX11_guild_b76 at hF
  refine lv_aload_n C.1.1 C.1.2.1 dX11_guild_76 rfl (lv_at hl 1 rfl) ?_
  refine xg_X11_203 C O.1.1 X (k := 21) rfl (j := 24) rfl dX11_guild_77 ?_
  refine lv_iload_n C.1.1 C.1.2.1 dX11_guild_80 rfl (lv_at hl 0 rfl) ?_
  obtain ⟨h_1, hF⟩ := chk_some hF
  refine x_rI C X (k := 24) rfl (n := 6) rfl  (inb_vp h_1) rfl dX11_guild_81 ?_
  cases hF
  exact t_iret C X (by decide) (by decide) dX11_guild_82
noncomputable def fX11_guild_b69 (N : Nat) (x1 : Int32) (S : gS) : Option (tR) := chk (inb x1 6) (some (0, S 23 (Int32.toNatClampNeg x1), S))
theorem bX11_guild_69 {N : Nat} {x1 : Int32} {S : gS} {H : Heap} {locs : List Loc} {ls : Array Slot} {o : tR} (C : gC p s m args meth c cX11_guild 4 RX11 ((some .int)) D (xtys cI cB cZ cQ) xord g Am) (O : tO l g cI cB cZ cQ Am aK aV) (Tb : ∀ x ∈ c.exceptionTable.toList, False) (X : gX D (xcell g cI cB cZ cQ) xord g S s H locs) (hl : lv_has ls 4 [(1, .int x1), (3, .ref (g 21))]) (hF : fX11_guild_b69 N x1 S = some o) : W p l e (rmx 7 2) s m args below meth c H locs 1 6 (gEX below args s D (xtys cI cB cZ cQ) (xcell g cI cB cZ cQ) xord g 2 false o) (F0 m 69 ls []) := by
  unfold fX11_guild_b69 at hF
  refine lv_aload_n C.1.1 C.1.2.1 dX11_guild_69 rfl (lv_at hl 1 rfl) ?_
  refine xg_X11_200 C O.1.1 X (k := 21) rfl (j := 23) rfl dX11_guild_70 ?_
  refine lv_iload_n C.1.1 C.1.2.1 dX11_guild_73 rfl (lv_at hl 0 rfl) ?_
  obtain ⟨h_1, hF⟩ := chk_some hF
  refine x_rI C X (k := 23) rfl (n := 6) rfl  (inb_vp h_1) rfl dX11_guild_74 ?_
  cases hF
  exact t_iret C X (by decide) (by decide) dX11_guild_75
noncomputable def fX11_guild_b62 (N : Nat) (x1 : Int32) (S : gS) : Option (tR) := chk (inb x1 6) (some (0, S 22 (Int32.toNatClampNeg x1), S))
theorem bX11_guild_62 {N : Nat} {x1 : Int32} {S : gS} {H : Heap} {locs : List Loc} {ls : Array Slot} {o : tR} (C : gC p s m args meth c cX11_guild 4 RX11 ((some .int)) D (xtys cI cB cZ cQ) xord g Am) (O : tO l g cI cB cZ cQ Am aK aV) (Tb : ∀ x ∈ c.exceptionTable.toList, False) (X : gX D (xcell g cI cB cZ cQ) xord g S s H locs) (hl : lv_has ls 4 [(1, .int x1), (3, .ref (g 21))]) (hF : fX11_guild_b62 N x1 S = some o) : W p l e (rmx 7 2) s m args below meth c H locs 1 6 (gEX below args s D (xtys cI cB cZ cQ) (xcell g cI cB cZ cQ) xord g 2 false o) (F0 m 62 ls []) := by
  unfold fX11_guild_b62 at hF
  refine lv_aload_n C.1.1 C.1.2.1 dX11_guild_62 rfl (lv_at hl 1 rfl) ?_
  refine xg_X11_197 C O.1.1 X (k := 21) rfl (j := 22) rfl dX11_guild_63 ?_
  refine lv_iload_n C.1.1 C.1.2.1 dX11_guild_66 rfl (lv_at hl 0 rfl) ?_
  obtain ⟨h_1, hF⟩ := chk_some hF
  refine x_rI C X (k := 22) rfl (n := 6) rfl  (inb_vp h_1) rfl dX11_guild_67 ?_
  cases hF
  exact t_iret C X (by decide) (by decide) dX11_guild_68
noncomputable def fX11_guild_b52 (N : Nat) (x1 : Int32) (S : gS) : Option (tR) := lt (xtw S) fun T1 => (chk (inb x1 6) (some (0, S (T1 + 5) (Int32.toNatClampNeg x1), S)))
theorem bX11_guild_52 {N : Nat} {x1 : Int32} {S : gS} {H : Heap} {locs : List Loc} {ls : Array Slot} {o : tR} (C : gC p s m args meth c cX11_guild 4 RX11 ((some .int)) D (xtys cI cB cZ cQ) xord g Am) (O : tO l g cI cB cZ cQ Am aK aV) (Tb : ∀ x ∈ c.exceptionTable.toList, False) (X : gX D (xcell g cI cB cZ cQ) xord g S s H locs) (hl : lv_has ls 4 [(0, .ref (g 0)), (1, .int x1)]) (hF : fX11_guild_b52 N x1 S = some o) : W p l e (rmx 7 2) s m args below meth c H locs 1 6 (gEX below args s D (xtys cI cB cZ cQ) (xcell g cI cB cZ cQ) xord g 2 false o) (F0 m 52 ls []) := by
  unfold fX11_guild_b52 at hF
  refine lv_aload_n C.1.1 C.1.2.1 dX11_guild_52 rfl (lv_at hl 0 rfl) ?_
  obtain ⟨T1, eT1, hF⟩ := lt_some hF
  have hk_T1 := xtw_k eT1
  refine xg_X11_57 C O.1.1 X (T := T1) eT1 (k := 0) rfl dX11_guild_53 ?_
  refine xg_X11_194 C O.1.1 X (k := T1) hk_T1 (j := T1 + 5) rfl dX11_guild_56 ?_
  refine lv_iload_n C.1.1 C.1.2.1 dX11_guild_59 rfl (lv_at hl 1 rfl) ?_
  obtain ⟨h_1, hF⟩ := chk_some hF
  refine x_rI C X (k := T1 + 5) (xs_9_6 hk_T1).1 (n := 6) (xs_9_6 hk_T1).2  (inb_vp h_1) rfl dX11_guild_60 ?_
  cases hF
  exact t_iret C X (by decide) (by decide) dX11_guild_61
noncomputable def fX11_guild_b0 (N : Nat) (x1 : Int32) (x2 : Int32) (S : gS) : Option (tR) := bnx (fX11_needGuild N x1 S) fun q1 => (if x2 = 0 then fX11_guild_b52 N x1 q1.2.2 else if x2 = 1 then fX11_guild_b62 N x1 q1.2.2 else if x2 = 2 then fX11_guild_b69 N x1 q1.2.2 else if x2 = 3 then fX11_guild_b76 N x1 q1.2.2 else if x2 = 4 then fX11_guild_b83 N x1 q1.2.2 else if x2 = 5 then fX11_guild_b90 N x1 q1.2.2 else fX11_guild_b96 N q1.2.2)
theorem bX11_guild_0 {N : Nat} {x1 : Int32} {x2 : Int32} {S : gS} {H : Heap} {locs : List Loc} {ls : Array Slot} {o : tR} (C : gC p s m args meth c cX11_guild 4 RX11 ((some .int)) D (xtys cI cB cZ cQ) xord g Am) (O : tO l g cI cB cZ cQ Am aK aV) (Tb : ∀ x ∈ c.exceptionTable.toList, False) (X : gX D (xcell g cI cB cZ cQ) xord g S s H locs) (hl : lv_has ls 4 [(0, .ref (g 0)), (1, .int x1), (2, .int x2)]) (hF : fX11_guild_b0 N x1 x2 S = some o) : W p l e (rmx 7 2) s m args below meth c H locs 0 0 (gEX below args s D (xtys cI cB cZ cQ) (xcell g cI cB cZ cQ) xord g 2 false o) (F0 m 0 ls []) := by
  unfold fX11_guild_b0 at hF
  refine lv_aload_n C.1.1 C.1.2.1 dX11_guild_0 rfl (lv_at hl 0 rfl) ?_
  refine lv_iload_n C.1.1 C.1.2.1 dX11_guild_1 rfl (lv_at hl 1 rfl) ?_
  rcases (bnx_some hF).symm with ⟨q1, hq1, zq1, eo⟩ | ⟨q1, hq1, zq1, hF⟩
  · subst eo
    exact t_thr (x_preT C X xv_X11_191 rfl (kX11_needGuild O C.2.2.2.2.1 N x1 S q1 hq1) (Nat.le_of_ble_eq_true rfl) (Nat.le_of_ble_eq_true rfl) (Nat.le_of_ble_eq_true rfl) (Nat.le_of_ble_eq_true rfl) rfl hl.1 rfl (Nat.le_of_ble_eq_true rfl) dX11_guild_2) zq1 C Tb X (by decide) (by decide)
  refine t_okv (x_preT C X xv_X11_191 rfl (kX11_needGuild O C.2.2.2.2.1 N x1 S q1 hq1) (Nat.le_of_ble_eq_true rfl) (Nat.le_of_ble_eq_true rfl) (Nat.le_of_ble_eq_true rfl) (Nat.le_of_ble_eq_true rfl) rfl hl.1 rfl (Nat.le_of_ble_eq_true rfl) dX11_guild_2) zq1 X (fun H locs X => ?_)
  refine W.widen (k := 1) (n := 6) (by decide) (by decide) ?_
  refine lv_aload_n C.1.1 C.1.2.1 dX11_guild_5 rfl (lv_at hl 0 rfl) ?_
  refine xg_X11_19 C O.1.1 X (k := 0) rfl (j := 20) rfl dX11_guild_6 ?_
  refine xg_X11_105 C O.1.1 X (k := 20) rfl (j := 21) rfl dX11_guild_9 ?_
  refine lv_astore_n (lv' := [(3, .ref (g 21)), (0, .ref (g 0)), (1, .int x1), (2, .int x2)]) C.1.1 C.1.2.1 dX11_guild_12 rfl hl (by decide) rfl (fun ls hl => ?_)
  refine lv_iload_n C.1.1 C.1.2.1 dX11_guild_13 rfl (lv_at hl 3 rfl) ?_
  by_cases hz_0 : x2 = 0
  · rw [if_pos hz_0] at hF
    refine lv_tableIn (off := 38) (tgt := 52) C.1.1 C.1.2.1 dX11_guild_14 (by rw [hz_0]; decide) (by rw [hz_0]; decide) (by rw [hz_0]; decide) (by decide) ?_
    exact bX11_guild_52 C O Tb X (lv_sub hl [1, 2] rfl) hF
  rw [if_neg hz_0] at hF
  by_cases hz_1 : x2 = 1
  · rw [if_pos hz_1] at hF
    refine lv_tableIn (off := 48) (tgt := 62) C.1.1 C.1.2.1 dX11_guild_14 (by rw [hz_1]; decide) (by rw [hz_1]; decide) (by rw [hz_1]; decide) (by decide) ?_
    exact bX11_guild_62 C O Tb X (lv_sub hl [2, 0] rfl) hF
  rw [if_neg hz_1] at hF
  by_cases hz_2 : x2 = 2
  · rw [if_pos hz_2] at hF
    refine lv_tableIn (off := 55) (tgt := 69) C.1.1 C.1.2.1 dX11_guild_14 (by rw [hz_2]; decide) (by rw [hz_2]; decide) (by rw [hz_2]; decide) (by decide) ?_
    exact bX11_guild_69 C O Tb X (lv_sub hl [2, 0] rfl) hF
  rw [if_neg hz_2] at hF
  by_cases hz_3 : x2 = 3
  · rw [if_pos hz_3] at hF
    refine lv_tableIn (off := 62) (tgt := 76) C.1.1 C.1.2.1 dX11_guild_14 (by rw [hz_3]; decide) (by rw [hz_3]; decide) (by rw [hz_3]; decide) (by decide) ?_
    exact bX11_guild_76 C O Tb X (lv_sub hl [2, 0] rfl) hF
  rw [if_neg hz_3] at hF
  by_cases hz_4 : x2 = 4
  · rw [if_pos hz_4] at hF
    refine lv_tableIn (off := 69) (tgt := 83) C.1.1 C.1.2.1 dX11_guild_14 (by rw [hz_4]; decide) (by rw [hz_4]; decide) (by rw [hz_4]; decide) (by decide) ?_
    exact bX11_guild_83 C O Tb X (lv_sub hl [2, 0] rfl) hF
  rw [if_neg hz_4] at hF
  by_cases hz_5 : x2 = 5
  · rw [if_pos hz_5] at hF
    refine lv_tableIn (off := 76) (tgt := 90) C.1.1 C.1.2.1 dX11_guild_14 (by rw [hz_5]; decide) (by rw [hz_5]; decide) (by rw [hz_5]; decide) (by decide) ?_
    exact bX11_guild_90 C O Tb X (lv_sub hl [1, 2] rfl) hF
  rw [if_neg hz_5] at hF
  refine lv_tableOut (tgt := 96) C.1.1 C.1.2.1 dX11_guild_14 (g_tsw 0 5 _ ?_) (by decide) ?_
  · intro i hi1 hi2
    rcases (show i = 0 ∨ i = 1 ∨ i = 2 ∨ i = 3 ∨ i = 4 ∨ i = 5 by omega) with rfl | rfl | rfl | rfl | rfl | rfl
    · exact hz_0
    · exact hz_1
    · exact hz_2
    · exact hz_3
    · exact hz_4
    · exact hz_5
  exact bX11_guild_96 C O Tb X (lv_sub hl [] rfl) hF
noncomputable def fX11_guild (N : Nat) (x1 : Int32) (x2 : Int32) (S : gS) : Option (tR) := fX11_guild_b0 N x1 x2 S
theorem kX11_guild {l : Launch} {D : va_G} {g : Nat → Nat} {cI cB cZ cQ : ClassId} {Am : (Nat → Prop) → State → Heap → Prop} {aK aV : Nat → Nat} (O : tO l g cI cB cZ cQ Am aK aV) (P : gAm Am) (N : Nat) (x1 : Int32) (x2 : Int32) (S : gS) (o : tR) (hF : fX11_guild N x1 x2 S = some o) : gN l yX11_guild cX11_guild 4 ((some .int)) 7 2 D (xtys cI cB cZ cQ) (xcell g cI cB cZ cQ) xord g Am [.ref (g 0), .int x1, .int x2] S false o :=
  gN_of P (by decide) (Nat.le_of_ble_eq_true rfl) (fun p e s m args below meth c ls C Tb X hl => bX11_guild_0 C O Tb X (lv_sub hl [0, 1, 2] rfl) hF)
-- X11.hire
noncomputable def fX11_hire_b40 (N : Nat) (x1 : Int32) (x2 : Int32) (S : gS) : Option (tR) := bnd (fX1_keepAct N 20 S) fun q1 => (chk (inb x1 6) (lt (sU q1.2 25 (Int32.toNatClampNeg x1) x2) fun S1 => (some (0, 1, S1))))
theorem bX11_hire_40 {N : Nat} {x1 : Int32} {x2 : Int32} {S : gS} {H : Heap} {locs : List Loc} {ls : Array Slot} {o : tR} (C : gC p s m args meth c cX11_hire 3 RX11 ((some .boolean)) D (xtys cI cB cZ cQ) xord g Am) (O : tO l g cI cB cZ cQ Am aK aV) (Tb : ∀ x ∈ c.exceptionTable.toList, False) (X : gX D (xcell g cI cB cZ cQ) xord g S s H locs) (hl : lv_has ls 3 [(0, .ref (g 0)), (1, .int x1), (2, .int x2)]) (hF : fX11_hire_b40 N x1 x2 S = some o) : W p l e (rmx 7 2) s m args below meth c H locs 2 12 (gEX below args s D (xtys cI cB cZ cQ) (xcell g cI cB cZ cQ) xord g 2 false o) (F0 m 40 ls []) := by
  unfold fX11_hire_b40 at hF
  refine lv_aload_n C.1.1 C.1.2.1 dX11_hire_40 rfl (lv_at hl 0 rfl) ?_
  refine xg_X11_19 C O.1.1 X (k := 0) rfl (j := 20) rfl dX11_hire_41 ?_
  obtain ⟨q1, hq1, hF⟩ := bnd_some hF
  refine x_callV C X (k := 20) xv_X11_218 (rfl : xk 20 = 1) rfl rfl (by decide) (kX1_keepAct O.1 C.2.2.2.2.1 N 20 (rfl : xk 20 = 1) S q1 hq1) (Nat.le_of_ble_eq_true rfl) (Nat.le_of_ble_eq_true rfl) (Nat.le_of_ble_eq_true rfl) (Nat.le_of_ble_eq_true rfl) rfl hl.1 rfl (Nat.le_of_ble_eq_true rfl) dX11_hire_44 (fun H locs X => ?_)
  refine lv_aload_n C.1.1 C.1.2.1 dX11_hire_47 rfl (lv_at hl 0 rfl) ?_
  refine xg_X11_19 C O.1.1 X (k := 0) rfl (j := 20) rfl dX11_hire_48 ?_
  refine xg_X11_105 C O.1.1 X (k := 20) rfl (j := 21) rfl dX11_hire_51 ?_
  refine xg_X11_206 C O.1.1 X (k := 21) rfl (j := 25) rfl dX11_hire_54 ?_
  refine lv_iload_n C.1.1 C.1.2.1 dX11_hire_57 rfl (lv_at hl 1 rfl) ?_
  refine lv_iload_n C.1.1 C.1.2.1 dX11_hire_58 rfl (lv_at hl 2 rfl) ?_
  obtain ⟨h_1, hF⟩ := chk_some hF
  obtain ⟨S1, eS1, hF⟩ := lt_some hF
  refine x_wI C O.1.1 X (k := 25) rfl (n := 6) rfl  (inb_vp h_1) rfl eS1 dX11_hire_59 (fun H locs X => ?_)
  refine lv_iconst (v := 1) C.1.1 C.1.2.1 dX11_hire_60 (by decide) ?_
  cases hF
  exact t_zret (x := 1) C X (by decide) (by decide) (by decide) dX11_hire_61
noncomputable def fX11_hire_b29 (N : Nat) (S : gS) : Option (tR) := bnd (fX1_refuse N 20 1 S) fun q1 => (some (0, 0, q1.2))
theorem bX11_hire_29 {N : Nat} {S : gS} {H : Heap} {locs : List Loc} {ls : Array Slot} {o : tR} (C : gC p s m args meth c cX11_hire 3 RX11 ((some .boolean)) D (xtys cI cB cZ cQ) xord g Am) (O : tO l g cI cB cZ cQ Am aK aV) (Tb : ∀ x ∈ c.exceptionTable.toList, False) (X : gX D (xcell g cI cB cZ cQ) xord g S s H locs) (hl : lv_has ls 3 [(0, .ref (g 0))]) (hF : fX11_hire_b29 N S = some o) : W p l e (rmx 7 2) s m args below meth c H locs 2 12 (gEX below args s D (xtys cI cB cZ cQ) (xcell g cI cB cZ cQ) xord g 2 false o) (F0 m 29 ls []) := by
  unfold fX11_hire_b29 at hF
  refine lv_aload_n C.1.1 C.1.2.1 dX11_hire_29 rfl (lv_at hl 0 rfl) ?_
  refine xg_X11_19 C O.1.1 X (k := 0) rfl (j := 20) rfl dX11_hire_30 ?_
  refine lv_iconst (v := 1) C.1.1 C.1.2.1 dX11_hire_33 (by decide) ?_
  obtain ⟨q1, hq1, hF⟩ := bnd_some hF
  refine x_callVi C X (k := 20) xv_X11_93 (rfl : xk 20 = 1) rfl rfl (by decide) (kX1_refuse O.1.1 C.2.2.2.2.1 N 20 1 (rfl : xk 20 = 1) S q1 hq1) (Nat.le_of_ble_eq_true rfl) (Nat.le_of_ble_eq_true rfl) (Nat.le_of_ble_eq_true rfl) (Nat.le_of_ble_eq_true rfl) rfl hl.1 rfl (Nat.le_of_ble_eq_true rfl) dX11_hire_34 (fun H locs X => ?_)
  refine lv_pop C.1.1 C.1.2.1 dX11_hire_37 rfl ?_
  refine lv_iconst (v := 0) C.1.1 C.1.2.1 dX11_hire_38 (by decide) ?_
  cases hF
  exact t_zret (x := 0) C X (by decide) (by decide) (by decide) dX11_hire_39
noncomputable def fX11_hire_b0 (N : Nat) (x1 : Int32) (x2 : Int32) (S : gS) : Option (tR) := bnx (fX11_needGuild N x1 S) fun q1 => (bnx (fX11_needGrotto N x2 q1.2.2) fun q2 => (lt (xtw q2.2.2) fun T1 => (bnd (fX7_holderOf N 21 T1 x2 q2.2.2) fun q3 => (if q3.1 = ((-1)) then fX11_hire_b40 N x1 x2 q3.2 else fX11_hire_b29 N q3.2))))
theorem bX11_hire_0 {N : Nat} {x1 : Int32} {x2 : Int32} {S : gS} {H : Heap} {locs : List Loc} {ls : Array Slot} {o : tR} (C : gC p s m args meth c cX11_hire 3 RX11 ((some .boolean)) D (xtys cI cB cZ cQ) xord g Am) (O : tO l g cI cB cZ cQ Am aK aV) (Tb : ∀ x ∈ c.exceptionTable.toList, False) (X : gX D (xcell g cI cB cZ cQ) xord g S s H locs) (hl : lv_has ls 3 [(0, .ref (g 0)), (1, .int x1), (2, .int x2)]) (hF : fX11_hire_b0 N x1 x2 S = some o) : W p l e (rmx 7 2) s m args below meth c H locs 0 0 (gEX below args s D (xtys cI cB cZ cQ) (xcell g cI cB cZ cQ) xord g 2 false o) (F0 m 0 ls []) := by
  unfold fX11_hire_b0 at hF
  refine lv_aload_n C.1.1 C.1.2.1 dX11_hire_0 rfl (lv_at hl 0 rfl) ?_
  refine lv_iload_n C.1.1 C.1.2.1 dX11_hire_1 rfl (lv_at hl 1 rfl) ?_
  rcases (bnx_some hF).symm with ⟨q1, hq1, zq1, eo⟩ | ⟨q1, hq1, zq1, hF⟩
  · subst eo
    exact t_thr (x_preT C X xv_X11_191 rfl (kX11_needGuild O C.2.2.2.2.1 N x1 S q1 hq1) (Nat.le_of_ble_eq_true rfl) (Nat.le_of_ble_eq_true rfl) (Nat.le_of_ble_eq_true rfl) (Nat.le_of_ble_eq_true rfl) rfl hl.1 rfl (Nat.le_of_ble_eq_true rfl) dX11_hire_2) zq1 C Tb X (by decide) (by decide)
  refine t_okv (x_preT C X xv_X11_191 rfl (kX11_needGuild O C.2.2.2.2.1 N x1 S q1 hq1) (Nat.le_of_ble_eq_true rfl) (Nat.le_of_ble_eq_true rfl) (Nat.le_of_ble_eq_true rfl) (Nat.le_of_ble_eq_true rfl) rfl hl.1 rfl (Nat.le_of_ble_eq_true rfl) dX11_hire_2) zq1 X (fun H locs X => ?_)
  refine W.widen (k := 1) (n := 6) (by decide) (by decide) ?_
  refine lv_aload_n C.1.1 C.1.2.1 dX11_hire_5 rfl (lv_at hl 0 rfl) ?_
  refine lv_iload_n C.1.1 C.1.2.1 dX11_hire_6 rfl (lv_at hl 2 rfl) ?_
  rcases (bnx_some hF).symm with ⟨q2, hq2, zq2, eo⟩ | ⟨q2, hq2, zq2, hF⟩
  · subst eo
    exact t_thr (x_preT C X xv_X11_162 rfl (kX11_needGrotto O C.2.2.2.2.1 N x2 q1.2.2 q2 hq2) (Nat.le_of_ble_eq_true rfl) (Nat.le_of_ble_eq_true rfl) (Nat.le_of_ble_eq_true rfl) (Nat.le_of_ble_eq_true rfl) rfl hl.1 rfl (Nat.le_of_ble_eq_true rfl) dX11_hire_7) zq2 C Tb X (by decide) (by decide)
  refine t_okv (x_preT C X xv_X11_162 rfl (kX11_needGrotto O C.2.2.2.2.1 N x2 q1.2.2 q2 hq2) (Nat.le_of_ble_eq_true rfl) (Nat.le_of_ble_eq_true rfl) (Nat.le_of_ble_eq_true rfl) (Nat.le_of_ble_eq_true rfl) rfl hl.1 rfl (Nat.le_of_ble_eq_true rfl) dX11_hire_7) zq2 X (fun H locs X => ?_)
  refine W.widen (k := 2) (n := 12) (by decide) (by decide) ?_
  refine lv_aload_n C.1.1 C.1.2.1 dX11_hire_10 rfl (lv_at hl 0 rfl) ?_
  refine xg_X11_19 C O.1.1 X (k := 0) rfl (j := 20) rfl dX11_hire_11 ?_
  refine xg_X11_105 C O.1.1 X (k := 20) rfl (j := 21) rfl dX11_hire_14 ?_
  refine lv_aload_n C.1.1 C.1.2.1 dX11_hire_17 rfl (lv_at hl 0 rfl) ?_
  obtain ⟨T1, eT1, hF⟩ := lt_some hF
  have hk_T1 := xtw_k eT1
  refine xg_X11_57 C O.1.1 X (T := T1) eT1 (k := 0) rfl dX11_hire_18 ?_
  refine lv_iload_n C.1.1 C.1.2.1 dX11_hire_21 rfl (lv_at hl 2 rfl) ?_
  obtain ⟨q3, hq3, hF⟩ := bnd_some hF
  refine x_callVi C X (k := 21) xv_X11_182 (rfl : xk 21 = 7) rfl rfl (by decide) (kX7_holderOf O.1.1 C.2.2.2.2.1 N 21 T1 x2 (rfl : xk 21 = 7) (hk_T1 : xk T1 = 9) q2.2.2 q3 hq3) (Nat.le_of_ble_eq_true rfl) (Nat.le_of_ble_eq_true rfl) (Nat.le_of_ble_eq_true rfl) (Nat.le_of_ble_eq_true rfl) rfl hl.1 rfl (Nat.le_of_ble_eq_true rfl) dX11_hire_22 (fun H locs X => ?_)
  refine lv_iconst (v := (-1)) C.1.1 C.1.2.1 dX11_hire_25 (by decide) ?_
  refine lv_icmp_eq (tgt := 40) C.1.1 C.1.2.1 dX11_hire_26 (by decide) (fun h_z => ?_) (fun h_z => ?_)
  · rw [if_pos h_z] at hF
    exact bX11_hire_40 C O Tb X (lv_sub hl [0, 1, 2] rfl) hF
  · rw [if_neg h_z] at hF
    exact bX11_hire_29 C O Tb X (lv_sub hl [0] rfl) hF
noncomputable def fX11_hire (N : Nat) (x1 : Int32) (x2 : Int32) (S : gS) : Option (tR) := fX11_hire_b0 N x1 x2 S
theorem kX11_hire {l : Launch} {D : va_G} {g : Nat → Nat} {cI cB cZ cQ : ClassId} {Am : (Nat → Prop) → State → Heap → Prop} {aK aV : Nat → Nat} (O : tO l g cI cB cZ cQ Am aK aV) (P : gAm Am) (N : Nat) (x1 : Int32) (x2 : Int32) (S : gS) (o : tR) (hF : fX11_hire N x1 x2 S = some o) : gN l yX11_hire cX11_hire 3 ((some .boolean)) 7 2 D (xtys cI cB cZ cQ) (xcell g cI cB cZ cQ) xord g Am [.ref (g 0), .int x1, .int x2] S false o :=
  gN_of P (by decide) (Nat.le_of_ble_eq_true rfl) (fun p e s m args below meth c ls C Tb X hl => bX11_hire_0 C O Tb X (lv_sub hl [0, 1, 2] rfl) hF)
-- X11.dismiss
noncomputable def fX11_dismiss_b32 (N : Nat) (x1 : Int32) (x2 : Int32) (S : gS) : Option (tR) := bnd (fX1_keepAct N 20 S) fun q1 => (chk (inb x1 6) (lt (sU q1.2 25 (Int32.toNatClampNeg x1) ((-1))) fun S1 => (some (0, x2, S1))))
theorem bX11_dismiss_32 {N : Nat} {x1 : Int32} {x2 : Int32} {S : gS} {H : Heap} {locs : List Loc} {ls : Array Slot} {o : tR} (C : gC p s m args meth c cX11_dismiss 3 RX11 ((some .int)) D (xtys cI cB cZ cQ) xord g Am) (O : tO l g cI cB cZ cQ Am aK aV) (Tb : ∀ x ∈ c.exceptionTable.toList, False) (X : gX D (xcell g cI cB cZ cQ) xord g S s H locs) (hl : lv_has ls 3 [(0, .ref (g 0)), (1, .int x1), (2, .int x2)]) (hF : fX11_dismiss_b32 N x1 x2 S = some o) : W p l e (rmx 7 1) s m args below meth c H locs 1 6 (gEX below args s D (xtys cI cB cZ cQ) (xcell g cI cB cZ cQ) xord g 1 false o) (F0 m 32 ls []) := by
  unfold fX11_dismiss_b32 at hF
  refine lv_aload_n C.1.1 C.1.2.1 dX11_dismiss_32 rfl (lv_at hl 0 rfl) ?_
  refine xg_X11_19 C O.1.1 X (k := 0) rfl (j := 20) rfl dX11_dismiss_33 ?_
  obtain ⟨q1, hq1, hF⟩ := bnd_some hF
  refine x_callV C X (k := 20) xv_X11_218 (rfl : xk 20 = 1) rfl rfl (by decide) (kX1_keepAct O.1 C.2.2.2.2.1 N 20 (rfl : xk 20 = 1) S q1 hq1) (Nat.le_of_ble_eq_true rfl) (Nat.le_of_ble_eq_true rfl) (Nat.le_of_ble_eq_true rfl) (Nat.le_of_ble_eq_true rfl) rfl hl.1 rfl (Nat.le_of_ble_eq_true rfl) dX11_dismiss_36 (fun H locs X => ?_)
  refine lv_aload_n C.1.1 C.1.2.1 dX11_dismiss_39 rfl (lv_at hl 0 rfl) ?_
  refine xg_X11_19 C O.1.1 X (k := 0) rfl (j := 20) rfl dX11_dismiss_40 ?_
  refine xg_X11_105 C O.1.1 X (k := 20) rfl (j := 21) rfl dX11_dismiss_43 ?_
  refine xg_X11_206 C O.1.1 X (k := 21) rfl (j := 25) rfl dX11_dismiss_46 ?_
  refine lv_iload_n C.1.1 C.1.2.1 dX11_dismiss_49 rfl (lv_at hl 1 rfl) ?_
  refine lv_iconst (v := (-1)) C.1.1 C.1.2.1 dX11_dismiss_50 (by decide) ?_
  obtain ⟨h_1, hF⟩ := chk_some hF
  obtain ⟨S1, eS1, hF⟩ := lt_some hF
  refine x_wI C O.1.1 X (k := 25) rfl (n := 6) rfl  (inb_vp h_1) rfl eS1 dX11_dismiss_51 (fun H locs X => ?_)
  refine lv_iload_n C.1.1 C.1.2.1 dX11_dismiss_52 rfl (lv_at hl 2 rfl) ?_
  cases hF
  exact t_iret C X (by decide) (by decide) dX11_dismiss_53
noncomputable def fX11_dismiss_b23 (N : Nat) (S : gS) : Option (tR) := bnd (fX1_refuse N 20 1 S) fun q1 => (some (0, q1.1, q1.2))
theorem bX11_dismiss_23 {N : Nat} {S : gS} {H : Heap} {locs : List Loc} {ls : Array Slot} {o : tR} (C : gC p s m args meth c cX11_dismiss 3 RX11 ((some .int)) D (xtys cI cB cZ cQ) xord g Am) (O : tO l g cI cB cZ cQ Am aK aV) (Tb : ∀ x ∈ c.exceptionTable.toList, False) (X : gX D (xcell g cI cB cZ cQ) xord g S s H locs) (hl : lv_has ls 3 [(0, .ref (g 0))]) (hF : fX11_dismiss_b23 N S = some o) : W p l e (rmx 7 1) s m args below meth c H locs 1 6 (gEX below args s D (xtys cI cB cZ cQ) (xcell g cI cB cZ cQ) xord g 1 false o) (F0 m 23 ls []) := by
  unfold fX11_dismiss_b23 at hF
  refine lv_aload_n C.1.1 C.1.2.1 dX11_dismiss_23 rfl (lv_at hl 0 rfl) ?_
  refine xg_X11_19 C O.1.1 X (k := 0) rfl (j := 20) rfl dX11_dismiss_24 ?_
  refine lv_iconst (v := 1) C.1.1 C.1.2.1 dX11_dismiss_27 (by decide) ?_
  obtain ⟨q1, hq1, hF⟩ := bnd_some hF
  refine x_callVi C X (k := 20) xv_X11_93 (rfl : xk 20 = 1) rfl rfl (by decide) (kX1_refuse O.1.1 C.2.2.2.2.1 N 20 1 (rfl : xk 20 = 1) S q1 hq1) (Nat.le_of_ble_eq_true rfl) (Nat.le_of_ble_eq_true rfl) (Nat.le_of_ble_eq_true rfl) (Nat.le_of_ble_eq_true rfl) rfl hl.1 rfl (Nat.le_of_ble_eq_true rfl) dX11_dismiss_28 (fun H locs X => ?_)
  cases hF
  exact t_iret C X (by decide) (by decide) dX11_dismiss_31
noncomputable def fX11_dismiss_b0 (N : Nat) (x1 : Int32) (S : gS) : Option (tR) := bnx (fX11_needGuild N x1 S) fun q1 => (chk (inb x1 6) (if (q1.2.2 25 (Int32.toNatClampNeg x1)) = ((-1)) then fX11_dismiss_b23 N q1.2.2 else fX11_dismiss_b32 N x1 (q1.2.2 25 (Int32.toNatClampNeg x1)) q1.2.2))
theorem bX11_dismiss_0 {N : Nat} {x1 : Int32} {S : gS} {H : Heap} {locs : List Loc} {ls : Array Slot} {o : tR} (C : gC p s m args meth c cX11_dismiss 3 RX11 ((some .int)) D (xtys cI cB cZ cQ) xord g Am) (O : tO l g cI cB cZ cQ Am aK aV) (Tb : ∀ x ∈ c.exceptionTable.toList, False) (X : gX D (xcell g cI cB cZ cQ) xord g S s H locs) (hl : lv_has ls 3 [(0, .ref (g 0)), (1, .int x1)]) (hF : fX11_dismiss_b0 N x1 S = some o) : W p l e (rmx 7 1) s m args below meth c H locs 0 0 (gEX below args s D (xtys cI cB cZ cQ) (xcell g cI cB cZ cQ) xord g 1 false o) (F0 m 0 ls []) := by
  unfold fX11_dismiss_b0 at hF
  refine lv_aload_n C.1.1 C.1.2.1 dX11_dismiss_0 rfl (lv_at hl 0 rfl) ?_
  refine lv_iload_n C.1.1 C.1.2.1 dX11_dismiss_1 rfl (lv_at hl 1 rfl) ?_
  rcases (bnx_some hF).symm with ⟨q1, hq1, zq1, eo⟩ | ⟨q1, hq1, zq1, hF⟩
  · subst eo
    exact t_thr (x_preT C X xv_X11_191 rfl (kX11_needGuild O C.2.2.2.2.1 N x1 S q1 hq1) (Nat.le_of_ble_eq_true rfl) (Nat.le_of_ble_eq_true rfl) (Nat.le_of_ble_eq_true rfl) (Nat.le_of_ble_eq_true rfl) rfl hl.1 rfl (Nat.le_of_ble_eq_true rfl) dX11_dismiss_2) zq1 C Tb X (by decide) (by decide)
  refine t_okv (x_preT C X xv_X11_191 rfl (kX11_needGuild O C.2.2.2.2.1 N x1 S q1 hq1) (Nat.le_of_ble_eq_true rfl) (Nat.le_of_ble_eq_true rfl) (Nat.le_of_ble_eq_true rfl) (Nat.le_of_ble_eq_true rfl) rfl hl.1 rfl (Nat.le_of_ble_eq_true rfl) dX11_dismiss_2) zq1 X (fun H locs X => ?_)
  refine W.widen (k := 1) (n := 6) (by decide) (by decide) ?_
  refine lv_aload_n C.1.1 C.1.2.1 dX11_dismiss_5 rfl (lv_at hl 0 rfl) ?_
  refine xg_X11_19 C O.1.1 X (k := 0) rfl (j := 20) rfl dX11_dismiss_6 ?_
  refine xg_X11_105 C O.1.1 X (k := 20) rfl (j := 21) rfl dX11_dismiss_9 ?_
  refine xg_X11_206 C O.1.1 X (k := 21) rfl (j := 25) rfl dX11_dismiss_12 ?_
  refine lv_iload_n C.1.1 C.1.2.1 dX11_dismiss_15 rfl (lv_at hl 1 rfl) ?_
  obtain ⟨h_1, hF⟩ := chk_some hF
  refine x_rI C X (k := 25) rfl (n := 6) rfl  (inb_vp h_1) rfl dX11_dismiss_16 ?_
  refine lv_istore_n (lv' := [(2, .int (q1.2.2 25 (Int32.toNatClampNeg x1))), (0, .ref (g 0)), (1, .int x1)]) C.1.1 C.1.2.1 dX11_dismiss_17 rfl hl (by decide) rfl (fun ls hl => ?_)
  refine lv_iload_n C.1.1 C.1.2.1 dX11_dismiss_18 rfl (lv_at hl 0 rfl) ?_
  refine lv_iconst (v := (-1)) C.1.1 C.1.2.1 dX11_dismiss_19 (by decide) ?_
  refine lv_icmp_ne (tgt := 32) C.1.1 C.1.2.1 dX11_dismiss_20 (by decide) (fun h_z => ?_) (fun h_z => ?_)
  · rw [if_neg h_z] at hF
    exact bX11_dismiss_32 C O Tb X (lv_sub hl [1, 2, 0] rfl) hF
  · rw [if_pos h_z] at hF
    exact bX11_dismiss_23 C O Tb X (lv_sub hl [1] rfl) hF
noncomputable def fX11_dismiss (N : Nat) (x1 : Int32) (S : gS) : Option (tR) := fX11_dismiss_b0 N x1 S
theorem kX11_dismiss {l : Launch} {D : va_G} {g : Nat → Nat} {cI cB cZ cQ : ClassId} {Am : (Nat → Prop) → State → Heap → Prop} {aK aV : Nat → Nat} (O : tO l g cI cB cZ cQ Am aK aV) (P : gAm Am) (N : Nat) (x1 : Int32) (S : gS) (o : tR) (hF : fX11_dismiss N x1 S = some o) : gN l yX11_dismiss cX11_dismiss 3 ((some .int)) 7 1 D (xtys cI cB cZ cQ) (xcell g cI cB cZ cQ) xord g Am [.ref (g 0), .int x1] S false o :=
  gN_of P (by decide) (Nat.le_of_ble_eq_true rfl) (fun p e s m args below meth c ls C Tb X hl => bX11_dismiss_0 C O Tb X (lv_sub hl [0, 1] rfl) hF)
-- X11.confess
noncomputable def fX11_confess_b33 (N : Nat) (x1 : Int32) (S : gS) : Option (tR) := bnd (fX1_keepAct N 20 S) fun q1 => (chk (inb x1 6) (chk (inb x1 6) (lt (sU q1.2 23 (Int32.toNatClampNeg x1) (((q1.2 23 (Int32.toNatClampNeg x1)) - 50 : Int32))) fun S1 => (chk (inb x1 6) (chk (inb x1 6) (lt (sU S1 22 (Int32.toNatClampNeg x1) (((S1 22 (Int32.toNatClampNeg x1)) / 2 : Int32))) fun S2 => (chk (inb x1 6) (some (0, S2 22 (Int32.toNatClampNeg x1), S2)))))))))
theorem bX11_confess_33 {N : Nat} {x1 : Int32} {S : gS} {H : Heap} {locs : List Loc} {ls : Array Slot} {o : tR} (C : gC p s m args meth c cX11_confess 3 RX11 ((some .int)) D (xtys cI cB cZ cQ) xord g Am) (O : tO l g cI cB cZ cQ Am aK aV) (Tb : ∀ x ∈ c.exceptionTable.toList, False) (X : gX D (xcell g cI cB cZ cQ) xord g S s H locs) (hl : lv_has ls 3 [(0, .ref (g 0)), (1, .int x1), (2, .ref (g 21))]) (hF : fX11_confess_b33 N x1 S = some o) : W p l e (rmx 7 1) s m args below meth c H locs 1 6 (gEX below args s D (xtys cI cB cZ cQ) (xcell g cI cB cZ cQ) xord g 1 false o) (F0 m 33 ls []) := by
  unfold fX11_confess_b33 at hF
  refine lv_aload_n C.1.1 C.1.2.1 dX11_confess_33 rfl (lv_at hl 0 rfl) ?_
  refine xg_X11_19 C O.1.1 X (k := 0) rfl (j := 20) rfl dX11_confess_34 ?_
  obtain ⟨q1, hq1, hF⟩ := bnd_some hF
  refine x_callV C X (k := 20) xv_X11_218 (rfl : xk 20 = 1) rfl rfl (by decide) (kX1_keepAct O.1 C.2.2.2.2.1 N 20 (rfl : xk 20 = 1) S q1 hq1) (Nat.le_of_ble_eq_true rfl) (Nat.le_of_ble_eq_true rfl) (Nat.le_of_ble_eq_true rfl) (Nat.le_of_ble_eq_true rfl) rfl hl.1 rfl (Nat.le_of_ble_eq_true rfl) dX11_confess_37 (fun H locs X => ?_)
  refine lv_aload_n C.1.1 C.1.2.1 dX11_confess_40 rfl (lv_at hl 2 rfl) ?_
  refine xg_X11_200 C O.1.1 X (k := 21) rfl (j := 23) rfl dX11_confess_41 ?_
  refine lv_iload_n C.1.1 C.1.2.1 dX11_confess_44 rfl (lv_at hl 1 rfl) ?_
  refine lv_dup2_11 C.1.1 C.1.2.1 dX11_confess_45 rfl rfl ?_
  obtain ⟨h_1, hF⟩ := chk_some hF
  refine x_rI C X (k := 23) rfl (n := 6) rfl  (inb_vp h_1) rfl dX11_confess_46 ?_
  refine lv_bipush (v := 50) C.1.1 C.1.2.1 dX11_confess_47 (by decide) ?_
  refine lv_isub C.1.1 C.1.2.1 dX11_confess_49 ?_
  obtain ⟨h_2, hF⟩ := chk_some hF
  obtain ⟨S1, eS1, hF⟩ := lt_some hF
  refine x_wI C O.1.1 X (k := 23) rfl (n := 6) rfl  (inb_vp h_2) rfl eS1 dX11_confess_50 (fun H locs X => ?_)
  refine lv_aload_n C.1.1 C.1.2.1 dX11_confess_51 rfl (lv_at hl 2 rfl) ?_
  refine xg_X11_197 C O.1.1 X (k := 21) rfl (j := 22) rfl dX11_confess_52 ?_
  refine lv_iload_n C.1.1 C.1.2.1 dX11_confess_55 rfl (lv_at hl 1 rfl) ?_
  refine lv_dup2_11 C.1.1 C.1.2.1 dX11_confess_56 rfl rfl ?_
  obtain ⟨h_3, hF⟩ := chk_some hF
  refine x_rI C X (k := 22) rfl (n := 6) rfl  (inb_vp h_3) rfl dX11_confess_57 ?_
  refine lv_iconst (v := 2) C.1.1 C.1.2.1 dX11_confess_58 (by decide) ?_
  refine lv_idiv C.1.1 C.1.2.1 dX11_confess_59 (by decide) ?_
  obtain ⟨h_4, hF⟩ := chk_some hF
  obtain ⟨S2, eS2, hF⟩ := lt_some hF
  refine x_wI C O.1.1 X (k := 22) rfl (n := 6) rfl  (inb_vp h_4) rfl eS2 dX11_confess_60 (fun H locs X => ?_)
  refine lv_aload_n C.1.1 C.1.2.1 dX11_confess_61 rfl (lv_at hl 2 rfl) ?_
  refine xg_X11_197 C O.1.1 X (k := 21) rfl (j := 22) rfl dX11_confess_62 ?_
  refine lv_iload_n C.1.1 C.1.2.1 dX11_confess_65 rfl (lv_at hl 1 rfl) ?_
  obtain ⟨h_5, hF⟩ := chk_some hF
  refine x_rI C X (k := 22) rfl (n := 6) rfl  (inb_vp h_5) rfl dX11_confess_66 ?_
  cases hF
  exact t_iret C X (by decide) (by decide) dX11_confess_67
noncomputable def fX11_confess_b24 (N : Nat) (S : gS) : Option (tR) := bnd (fX1_refuse N 20 1 S) fun q1 => (some (0, q1.1, q1.2))
theorem bX11_confess_24 {N : Nat} {S : gS} {H : Heap} {locs : List Loc} {ls : Array Slot} {o : tR} (C : gC p s m args meth c cX11_confess 3 RX11 ((some .int)) D (xtys cI cB cZ cQ) xord g Am) (O : tO l g cI cB cZ cQ Am aK aV) (Tb : ∀ x ∈ c.exceptionTable.toList, False) (X : gX D (xcell g cI cB cZ cQ) xord g S s H locs) (hl : lv_has ls 3 [(0, .ref (g 0))]) (hF : fX11_confess_b24 N S = some o) : W p l e (rmx 7 1) s m args below meth c H locs 1 6 (gEX below args s D (xtys cI cB cZ cQ) (xcell g cI cB cZ cQ) xord g 1 false o) (F0 m 24 ls []) := by
  unfold fX11_confess_b24 at hF
  refine lv_aload_n C.1.1 C.1.2.1 dX11_confess_24 rfl (lv_at hl 0 rfl) ?_
  refine xg_X11_19 C O.1.1 X (k := 0) rfl (j := 20) rfl dX11_confess_25 ?_
  refine lv_iconst (v := 1) C.1.1 C.1.2.1 dX11_confess_28 (by decide) ?_
  obtain ⟨q1, hq1, hF⟩ := bnd_some hF
  refine x_callVi C X (k := 20) xv_X11_93 (rfl : xk 20 = 1) rfl rfl (by decide) (kX1_refuse O.1.1 C.2.2.2.2.1 N 20 1 (rfl : xk 20 = 1) S q1 hq1) (Nat.le_of_ble_eq_true rfl) (Nat.le_of_ble_eq_true rfl) (Nat.le_of_ble_eq_true rfl) (Nat.le_of_ble_eq_true rfl) rfl hl.1 rfl (Nat.le_of_ble_eq_true rfl) dX11_confess_29 (fun H locs X => ?_)
  cases hF
  exact t_iret C X (by decide) (by decide) dX11_confess_32
noncomputable def fX11_confess_b0 (N : Nat) (x1 : Int32) (S : gS) : Option (tR) := bnx (fX11_needGuild N x1 S) fun q1 => (chk (inb x1 6) (if 50 ≤ (q1.2.2 23 (Int32.toNatClampNeg x1)) then fX11_confess_b33 N x1 q1.2.2 else fX11_confess_b24 N q1.2.2))
theorem bX11_confess_0 {N : Nat} {x1 : Int32} {S : gS} {H : Heap} {locs : List Loc} {ls : Array Slot} {o : tR} (C : gC p s m args meth c cX11_confess 3 RX11 ((some .int)) D (xtys cI cB cZ cQ) xord g Am) (O : tO l g cI cB cZ cQ Am aK aV) (Tb : ∀ x ∈ c.exceptionTable.toList, False) (X : gX D (xcell g cI cB cZ cQ) xord g S s H locs) (hl : lv_has ls 3 [(0, .ref (g 0)), (1, .int x1)]) (hF : fX11_confess_b0 N x1 S = some o) : W p l e (rmx 7 1) s m args below meth c H locs 0 0 (gEX below args s D (xtys cI cB cZ cQ) (xcell g cI cB cZ cQ) xord g 1 false o) (F0 m 0 ls []) := by
  unfold fX11_confess_b0 at hF
  refine lv_aload_n C.1.1 C.1.2.1 dX11_confess_0 rfl (lv_at hl 0 rfl) ?_
  refine lv_iload_n C.1.1 C.1.2.1 dX11_confess_1 rfl (lv_at hl 1 rfl) ?_
  rcases (bnx_some hF).symm with ⟨q1, hq1, zq1, eo⟩ | ⟨q1, hq1, zq1, hF⟩
  · subst eo
    exact t_thr (x_preT C X xv_X11_191 rfl (kX11_needGuild O C.2.2.2.2.1 N x1 S q1 hq1) (Nat.le_of_ble_eq_true rfl) (Nat.le_of_ble_eq_true rfl) (Nat.le_of_ble_eq_true rfl) (Nat.le_of_ble_eq_true rfl) rfl hl.1 rfl (Nat.le_of_ble_eq_true rfl) dX11_confess_2) zq1 C Tb X (by decide) (by decide)
  refine t_okv (x_preT C X xv_X11_191 rfl (kX11_needGuild O C.2.2.2.2.1 N x1 S q1 hq1) (Nat.le_of_ble_eq_true rfl) (Nat.le_of_ble_eq_true rfl) (Nat.le_of_ble_eq_true rfl) (Nat.le_of_ble_eq_true rfl) rfl hl.1 rfl (Nat.le_of_ble_eq_true rfl) dX11_confess_2) zq1 X (fun H locs X => ?_)
  refine W.widen (k := 1) (n := 6) (by decide) (by decide) ?_
  refine lv_aload_n C.1.1 C.1.2.1 dX11_confess_5 rfl (lv_at hl 0 rfl) ?_
  refine xg_X11_19 C O.1.1 X (k := 0) rfl (j := 20) rfl dX11_confess_6 ?_
  refine xg_X11_105 C O.1.1 X (k := 20) rfl (j := 21) rfl dX11_confess_9 ?_
  refine lv_astore_n (lv' := [(2, .ref (g 21)), (0, .ref (g 0)), (1, .int x1)]) C.1.1 C.1.2.1 dX11_confess_12 rfl hl (by decide) rfl (fun ls hl => ?_)
  refine lv_aload_n C.1.1 C.1.2.1 dX11_confess_13 rfl (lv_at hl 0 rfl) ?_
  refine xg_X11_200 C O.1.1 X (k := 21) rfl (j := 23) rfl dX11_confess_14 ?_
  refine lv_iload_n C.1.1 C.1.2.1 dX11_confess_17 rfl (lv_at hl 2 rfl) ?_
  obtain ⟨h_1, hF⟩ := chk_some hF
  refine x_rI C X (k := 23) rfl (n := 6) rfl  (inb_vp h_1) rfl dX11_confess_18 ?_
  refine lv_bipush (v := 50) C.1.1 C.1.2.1 dX11_confess_19 (by decide) ?_
  refine lv_icmp_ge (tgt := 33) C.1.1 C.1.2.1 dX11_confess_21 (by decide) (fun h_z => ?_) (fun h_z => ?_)
  · rw [if_pos h_z] at hF
    exact bX11_confess_33 C O Tb X (lv_sub hl [1, 2, 0] rfl) hF
  · rw [if_neg h_z] at hF
    exact bX11_confess_24 C O Tb X (lv_sub hl [1] rfl) hF
noncomputable def fX11_confess (N : Nat) (x1 : Int32) (S : gS) : Option (tR) := fX11_confess_b0 N x1 S
theorem kX11_confess {l : Launch} {D : va_G} {g : Nat → Nat} {cI cB cZ cQ : ClassId} {Am : (Nat → Prop) → State → Heap → Prop} {aK aV : Nat → Nat} (O : tO l g cI cB cZ cQ Am aK aV) (P : gAm Am) (N : Nat) (x1 : Int32) (S : gS) (o : tR) (hF : fX11_confess N x1 S = some o) : gN l yX11_confess cX11_confess 3 ((some .int)) 7 1 D (xtys cI cB cZ cQ) (xcell g cI cB cZ cQ) xord g Am [.ref (g 0), .int x1] S false o :=
  gN_of P (by decide) (Nat.le_of_ble_eq_true rfl) (fun p e s m args below meth c ls C Tb X hl => bX11_confess_0 C O Tb X (lv_sub hl [0, 1] rfl) hF)
-- X11.drain
noncomputable def fX11_drain_b31 (N : Nat) (x1 : Int32) (S : gS) : Option (tR) := bnd (fX1_keepAct N 20 S) fun q1 => (bnd (fX7_turn N 21 x1 q1.2) fun q2 => (some (0, 1, q2.2)))
theorem bX11_drain_31 {N : Nat} {x1 : Int32} {S : gS} {H : Heap} {locs : List Loc} {ls : Array Slot} {o : tR} (C : gC p s m args meth c cX11_drain 3 RX11 ((some .boolean)) D (xtys cI cB cZ cQ) xord g Am) (O : tO l g cI cB cZ cQ Am aK aV) (Tb : ∀ x ∈ c.exceptionTable.toList, False) (X : gX D (xcell g cI cB cZ cQ) xord g S s H locs) (hl : lv_has ls 3 [(0, .ref (g 0)), (1, .int x1)]) (hF : fX11_drain_b31 N x1 S = some o) : W p l e (rmx 7 1) s m args below meth c H locs 1 6 (gEX below args s D (xtys cI cB cZ cQ) (xcell g cI cB cZ cQ) xord g 1 false o) (F0 m 31 ls []) := by
  unfold fX11_drain_b31 at hF
  refine lv_aload_n C.1.1 C.1.2.1 dX11_drain_31 rfl (lv_at hl 0 rfl) ?_
  refine xg_X11_19 C O.1.1 X (k := 0) rfl (j := 20) rfl dX11_drain_32 ?_
  obtain ⟨q1, hq1, hF⟩ := bnd_some hF
  refine x_callV C X (k := 20) xv_X11_218 (rfl : xk 20 = 1) rfl rfl (by decide) (kX1_keepAct O.1 C.2.2.2.2.1 N 20 (rfl : xk 20 = 1) S q1 hq1) (Nat.le_of_ble_eq_true rfl) (Nat.le_of_ble_eq_true rfl) (Nat.le_of_ble_eq_true rfl) (Nat.le_of_ble_eq_true rfl) rfl hl.1 rfl (Nat.le_of_ble_eq_true rfl) dX11_drain_35 (fun H locs X => ?_)
  refine lv_aload_n C.1.1 C.1.2.1 dX11_drain_38 rfl (lv_at hl 0 rfl) ?_
  refine xg_X11_19 C O.1.1 X (k := 0) rfl (j := 20) rfl dX11_drain_39 ?_
  refine xg_X11_105 C O.1.1 X (k := 20) rfl (j := 21) rfl dX11_drain_42 ?_
  refine lv_iload_n C.1.1 C.1.2.1 dX11_drain_45 rfl (lv_at hl 1 rfl) ?_
  obtain ⟨q2, hq2, hF⟩ := bnd_some hF
  refine x_callV C X (k := 21) xv_X11_225 (rfl : xk 21 = 7) rfl rfl (by decide) (kX7_turn O.1.1 C.2.2.2.2.1 N 21 x1 (rfl : xk 21 = 7) q1.2 q2 hq2) (Nat.le_of_ble_eq_true rfl) (Nat.le_of_ble_eq_true rfl) (Nat.le_of_ble_eq_true rfl) (Nat.le_of_ble_eq_true rfl) rfl hl.1 rfl (Nat.le_of_ble_eq_true rfl) dX11_drain_46 (fun H locs X => ?_)
  refine lv_iconst (v := 1) C.1.1 C.1.2.1 dX11_drain_49 (by decide) ?_
  cases hF
  exact t_zret (x := 1) C X (by decide) (by decide) (by decide) dX11_drain_50
noncomputable def fX11_drain_b20 (N : Nat) (S : gS) : Option (tR) := bnd (fX1_refuse N 20 1 S) fun q1 => (some (0, 0, q1.2))
theorem bX11_drain_20 {N : Nat} {S : gS} {H : Heap} {locs : List Loc} {ls : Array Slot} {o : tR} (C : gC p s m args meth c cX11_drain 3 RX11 ((some .boolean)) D (xtys cI cB cZ cQ) xord g Am) (O : tO l g cI cB cZ cQ Am aK aV) (Tb : ∀ x ∈ c.exceptionTable.toList, False) (X : gX D (xcell g cI cB cZ cQ) xord g S s H locs) (hl : lv_has ls 3 [(0, .ref (g 0))]) (hF : fX11_drain_b20 N S = some o) : W p l e (rmx 7 1) s m args below meth c H locs 1 6 (gEX below args s D (xtys cI cB cZ cQ) (xcell g cI cB cZ cQ) xord g 1 false o) (F0 m 20 ls []) := by
  unfold fX11_drain_b20 at hF
  refine lv_aload_n C.1.1 C.1.2.1 dX11_drain_20 rfl (lv_at hl 0 rfl) ?_
  refine xg_X11_19 C O.1.1 X (k := 0) rfl (j := 20) rfl dX11_drain_21 ?_
  refine lv_iconst (v := 1) C.1.1 C.1.2.1 dX11_drain_24 (by decide) ?_
  obtain ⟨q1, hq1, hF⟩ := bnd_some hF
  refine x_callVi C X (k := 20) xv_X11_93 (rfl : xk 20 = 1) rfl rfl (by decide) (kX1_refuse O.1.1 C.2.2.2.2.1 N 20 1 (rfl : xk 20 = 1) S q1 hq1) (Nat.le_of_ble_eq_true rfl) (Nat.le_of_ble_eq_true rfl) (Nat.le_of_ble_eq_true rfl) (Nat.le_of_ble_eq_true rfl) rfl hl.1 rfl (Nat.le_of_ble_eq_true rfl) dX11_drain_25 (fun H locs X => ?_)
  refine lv_pop C.1.1 C.1.2.1 dX11_drain_28 rfl ?_
  refine lv_iconst (v := 0) C.1.1 C.1.2.1 dX11_drain_29 (by decide) ?_
  cases hF
  exact t_zret (x := 0) C X (by decide) (by decide) (by decide) dX11_drain_30
noncomputable def fX11_drain_b0 (N : Nat) (x1 : Int32) (x2 : Int32) (S : gS) : Option (tR) := bnx (fX11_needGrotto N x1 S) fun q1 => (bnd (fX7_isDrained N 21 x1 q1.2.2) fun q2 => (if q2.1 = x2 then fX11_drain_b20 N q2.2 else fX11_drain_b31 N x1 q2.2))
theorem bX11_drain_0 {N : Nat} {x1 : Int32} {x2 : Int32} {S : gS} {H : Heap} {locs : List Loc} {ls : Array Slot} {o : tR} (C : gC p s m args meth c cX11_drain 3 RX11 ((some .boolean)) D (xtys cI cB cZ cQ) xord g Am) (O : tO l g cI cB cZ cQ Am aK aV) (Tb : ∀ x ∈ c.exceptionTable.toList, False) (X : gX D (xcell g cI cB cZ cQ) xord g S s H locs) (hl : lv_has ls 3 [(0, .ref (g 0)), (1, .int x1), (2, .int x2)]) (hF : fX11_drain_b0 N x1 x2 S = some o) : W p l e (rmx 7 1) s m args below meth c H locs 0 0 (gEX below args s D (xtys cI cB cZ cQ) (xcell g cI cB cZ cQ) xord g 1 false o) (F0 m 0 ls []) := by
  unfold fX11_drain_b0 at hF
  refine lv_aload_n C.1.1 C.1.2.1 dX11_drain_0 rfl (lv_at hl 0 rfl) ?_
  refine lv_iload_n C.1.1 C.1.2.1 dX11_drain_1 rfl (lv_at hl 1 rfl) ?_
  rcases (bnx_some hF).symm with ⟨q1, hq1, zq1, eo⟩ | ⟨q1, hq1, zq1, hF⟩
  · subst eo
    exact t_thr (x_preT C X xv_X11_162 rfl (kX11_needGrotto O C.2.2.2.2.1 N x1 S q1 hq1) (Nat.le_of_ble_eq_true rfl) (Nat.le_of_ble_eq_true rfl) (Nat.le_of_ble_eq_true rfl) (Nat.le_of_ble_eq_true rfl) rfl hl.1 rfl (Nat.le_of_ble_eq_true rfl) dX11_drain_2) zq1 C Tb X (by decide) (by decide)
  refine t_okv (x_preT C X xv_X11_162 rfl (kX11_needGrotto O C.2.2.2.2.1 N x1 S q1 hq1) (Nat.le_of_ble_eq_true rfl) (Nat.le_of_ble_eq_true rfl) (Nat.le_of_ble_eq_true rfl) (Nat.le_of_ble_eq_true rfl) rfl hl.1 rfl (Nat.le_of_ble_eq_true rfl) dX11_drain_2) zq1 X (fun H locs X => ?_)
  refine W.widen (k := 1) (n := 6) (by decide) (by decide) ?_
  refine lv_aload_n C.1.1 C.1.2.1 dX11_drain_5 rfl (lv_at hl 0 rfl) ?_
  refine xg_X11_19 C O.1.1 X (k := 0) rfl (j := 20) rfl dX11_drain_6 ?_
  refine xg_X11_105 C O.1.1 X (k := 20) rfl (j := 21) rfl dX11_drain_9 ?_
  refine lv_iload_n C.1.1 C.1.2.1 dX11_drain_12 rfl (lv_at hl 1 rfl) ?_
  obtain ⟨q2, hq2, hF⟩ := bnd_some hF
  refine x_callVi C X (k := 21) xv_X11_178 (rfl : xk 21 = 7) rfl rfl (by decide) (kX7_isDrained O.1.1 C.2.2.2.2.1 N 21 x1 (rfl : xk 21 = 7) q1.2.2 q2 hq2) (Nat.le_of_ble_eq_true rfl) (Nat.le_of_ble_eq_true rfl) (Nat.le_of_ble_eq_true rfl) (Nat.le_of_ble_eq_true rfl) rfl hl.1 rfl (Nat.le_of_ble_eq_true rfl) dX11_drain_13 (fun H locs X => ?_)
  refine lv_iload_n C.1.1 C.1.2.1 dX11_drain_16 rfl (lv_at hl 2 rfl) ?_
  refine lv_icmp_ne (tgt := 31) C.1.1 C.1.2.1 dX11_drain_17 (by decide) (fun h_z => ?_) (fun h_z => ?_)
  · rw [if_neg h_z] at hF
    exact bX11_drain_31 C O Tb X (lv_sub hl [0, 1] rfl) hF
  · rw [if_pos h_z] at hF
    exact bX11_drain_20 C O Tb X (lv_sub hl [0] rfl) hF
noncomputable def fX11_drain (N : Nat) (x1 : Int32) (x2 : Int32) (S : gS) : Option (tR) := fX11_drain_b0 N x1 x2 S
theorem kX11_drain {l : Launch} {D : va_G} {g : Nat → Nat} {cI cB cZ cQ : ClassId} {Am : (Nat → Prop) → State → Heap → Prop} {aK aV : Nat → Nat} (O : tO l g cI cB cZ cQ Am aK aV) (P : gAm Am) (N : Nat) (x1 : Int32) (x2 : Int32) (S : gS) (o : tR) (hF : fX11_drain N x1 x2 S = some o) : gN l yX11_drain cX11_drain 3 ((some .boolean)) 7 1 D (xtys cI cB cZ cQ) (xcell g cI cB cZ cQ) xord g Am [.ref (g 0), .int x1, .int x2] S false o :=
  gN_of P (by decide) (Nat.le_of_ble_eq_true rfl) (fun p e s m args below meth c ls C Tb X hl => bX11_drain_0 C O Tb X (lv_sub hl [0, 1, 2] rfl) hF)
-- X11.give
noncomputable def fX11_give_b24 (N : Nat) (x1 : Int32) (x2 : Int32) (S : gS) : Option (tR) := bnd (fX1_keepAct N 20 S) fun q1 => (bnd (fX7_enrich N 21 x1 x2 q1.2) fun q2 => (chk (inb x1 6) (some (0, q2.2 23 (Int32.toNatClampNeg x1), q2.2))))
theorem bX11_give_24 {N : Nat} {x1 : Int32} {x2 : Int32} {S : gS} {H : Heap} {locs : List Loc} {ls : Array Slot} {o : tR} (C : gC p s m args meth c cX11_give 3 RX11 ((some .int)) D (xtys cI cB cZ cQ) xord g Am) (O : tO l g cI cB cZ cQ Am aK aV) (Tb : ∀ x ∈ c.exceptionTable.toList, False) (X : gX D (xcell g cI cB cZ cQ) xord g S s H locs) (hl : lv_has ls 3 [(0, .ref (g 0)), (1, .int x1), (2, .int x2)]) (hF : fX11_give_b24 N x1 x2 S = some o) : W p l e (rmx 7 1) s m args below meth c H locs 1 6 (gEX below args s D (xtys cI cB cZ cQ) (xcell g cI cB cZ cQ) xord g 1 false o) (F0 m 24 ls []) := by
  unfold fX11_give_b24 at hF
  refine lv_aload_n C.1.1 C.1.2.1 dX11_give_24 rfl (lv_at hl 0 rfl) ?_
  refine xg_X11_19 C O.1.1 X (k := 0) rfl (j := 20) rfl dX11_give_25 ?_
  obtain ⟨q1, hq1, hF⟩ := bnd_some hF
  refine x_callV C X (k := 20) xv_X11_218 (rfl : xk 20 = 1) rfl rfl (by decide) (kX1_keepAct O.1 C.2.2.2.2.1 N 20 (rfl : xk 20 = 1) S q1 hq1) (Nat.le_of_ble_eq_true rfl) (Nat.le_of_ble_eq_true rfl) (Nat.le_of_ble_eq_true rfl) (Nat.le_of_ble_eq_true rfl) rfl hl.1 rfl (Nat.le_of_ble_eq_true rfl) dX11_give_28 (fun H locs X => ?_)
  refine lv_aload_n C.1.1 C.1.2.1 dX11_give_31 rfl (lv_at hl 0 rfl) ?_
  refine xg_X11_19 C O.1.1 X (k := 0) rfl (j := 20) rfl dX11_give_32 ?_
  refine xg_X11_105 C O.1.1 X (k := 20) rfl (j := 21) rfl dX11_give_35 ?_
  refine lv_iload_n C.1.1 C.1.2.1 dX11_give_38 rfl (lv_at hl 1 rfl) ?_
  refine lv_iload_n C.1.1 C.1.2.1 dX11_give_39 rfl (lv_at hl 2 rfl) ?_
  obtain ⟨q2, hq2, hF⟩ := bnd_some hF
  refine x_callV C X (k := 21) xv_X11_228 (rfl : xk 21 = 7) rfl rfl (by decide) (kX7_enrich O.1.1 C.2.2.2.2.1 N 21 x1 x2 (rfl : xk 21 = 7) q1.2 q2 hq2) (Nat.le_of_ble_eq_true rfl) (Nat.le_of_ble_eq_true rfl) (Nat.le_of_ble_eq_true rfl) (Nat.le_of_ble_eq_true rfl) rfl hl.1 rfl (Nat.le_of_ble_eq_true rfl) dX11_give_40 (fun H locs X => ?_)
  refine lv_aload_n C.1.1 C.1.2.1 dX11_give_43 rfl (lv_at hl 0 rfl) ?_
  refine xg_X11_19 C O.1.1 X (k := 0) rfl (j := 20) rfl dX11_give_44 ?_
  refine xg_X11_105 C O.1.1 X (k := 20) rfl (j := 21) rfl dX11_give_47 ?_
  refine xg_X11_200 C O.1.1 X (k := 21) rfl (j := 23) rfl dX11_give_50 ?_
  refine lv_iload_n C.1.1 C.1.2.1 dX11_give_53 rfl (lv_at hl 1 rfl) ?_
  obtain ⟨h_1, hF⟩ := chk_some hF
  refine x_rI C X (k := 23) rfl (n := 6) rfl  (inb_vp h_1) rfl dX11_give_54 ?_
  cases hF
  exact t_iret C X (by decide) (by decide) dX11_give_55
noncomputable def fX11_give_b15 (N : Nat) (S : gS) : Option (tR) := bnd (fX1_refuse N 20 1 S) fun q1 => (some (0, q1.1, q1.2))
theorem bX11_give_15 {N : Nat} {S : gS} {H : Heap} {locs : List Loc} {ls : Array Slot} {o : tR} (C : gC p s m args meth c cX11_give 3 RX11 ((some .int)) D (xtys cI cB cZ cQ) xord g Am) (O : tO l g cI cB cZ cQ Am aK aV) (Tb : ∀ x ∈ c.exceptionTable.toList, False) (X : gX D (xcell g cI cB cZ cQ) xord g S s H locs) (hl : lv_has ls 3 [(0, .ref (g 0))]) (hF : fX11_give_b15 N S = some o) : W p l e (rmx 7 1) s m args below meth c H locs 1 6 (gEX below args s D (xtys cI cB cZ cQ) (xcell g cI cB cZ cQ) xord g 1 false o) (F0 m 15 ls []) := by
  unfold fX11_give_b15 at hF
  refine lv_aload_n C.1.1 C.1.2.1 dX11_give_15 rfl (lv_at hl 0 rfl) ?_
  refine xg_X11_19 C O.1.1 X (k := 0) rfl (j := 20) rfl dX11_give_16 ?_
  refine lv_iconst (v := 1) C.1.1 C.1.2.1 dX11_give_19 (by decide) ?_
  obtain ⟨q1, hq1, hF⟩ := bnd_some hF
  refine x_callVi C X (k := 20) xv_X11_93 (rfl : xk 20 = 1) rfl rfl (by decide) (kX1_refuse O.1.1 C.2.2.2.2.1 N 20 1 (rfl : xk 20 = 1) S q1 hq1) (Nat.le_of_ble_eq_true rfl) (Nat.le_of_ble_eq_true rfl) (Nat.le_of_ble_eq_true rfl) (Nat.le_of_ble_eq_true rfl) rfl hl.1 rfl (Nat.le_of_ble_eq_true rfl) dX11_give_20 (fun H locs X => ?_)
  cases hF
  exact t_iret C X (by decide) (by decide) dX11_give_23
noncomputable def fX11_give_b0 (N : Nat) (x1 : Int32) (x2 : Int32) (S : gS) : Option (tR) := bnx (fX11_needGuild N x1 S) fun q1 => (bnd (fX11_isWithin N x2 1 100 q1.2.2) fun q2 => (if q2.1 = 0 then fX11_give_b15 N q2.2 else fX11_give_b24 N x1 x2 q2.2))
theorem bX11_give_0 {N : Nat} {x1 : Int32} {x2 : Int32} {S : gS} {H : Heap} {locs : List Loc} {ls : Array Slot} {o : tR} (C : gC p s m args meth c cX11_give 3 RX11 ((some .int)) D (xtys cI cB cZ cQ) xord g Am) (O : tO l g cI cB cZ cQ Am aK aV) (Tb : ∀ x ∈ c.exceptionTable.toList, False) (X : gX D (xcell g cI cB cZ cQ) xord g S s H locs) (hl : lv_has ls 3 [(0, .ref (g 0)), (1, .int x1), (2, .int x2)]) (hF : fX11_give_b0 N x1 x2 S = some o) : W p l e (rmx 7 1) s m args below meth c H locs 0 0 (gEX below args s D (xtys cI cB cZ cQ) (xcell g cI cB cZ cQ) xord g 1 false o) (F0 m 0 ls []) := by
  unfold fX11_give_b0 at hF
  refine lv_aload_n C.1.1 C.1.2.1 dX11_give_0 rfl (lv_at hl 0 rfl) ?_
  refine lv_iload_n C.1.1 C.1.2.1 dX11_give_1 rfl (lv_at hl 1 rfl) ?_
  rcases (bnx_some hF).symm with ⟨q1, hq1, zq1, eo⟩ | ⟨q1, hq1, zq1, hF⟩
  · subst eo
    exact t_thr (x_preT C X xv_X11_191 rfl (kX11_needGuild O C.2.2.2.2.1 N x1 S q1 hq1) (Nat.le_of_ble_eq_true rfl) (Nat.le_of_ble_eq_true rfl) (Nat.le_of_ble_eq_true rfl) (Nat.le_of_ble_eq_true rfl) rfl hl.1 rfl (Nat.le_of_ble_eq_true rfl) dX11_give_2) zq1 C Tb X (by decide) (by decide)
  refine t_okv (x_preT C X xv_X11_191 rfl (kX11_needGuild O C.2.2.2.2.1 N x1 S q1 hq1) (Nat.le_of_ble_eq_true rfl) (Nat.le_of_ble_eq_true rfl) (Nat.le_of_ble_eq_true rfl) (Nat.le_of_ble_eq_true rfl) rfl hl.1 rfl (Nat.le_of_ble_eq_true rfl) dX11_give_2) zq1 X (fun H locs X => ?_)
  refine W.widen (k := 1) (n := 6) (by decide) (by decide) ?_
  refine lv_iload_n C.1.1 C.1.2.1 dX11_give_5 rfl (lv_at hl 2 rfl) ?_
  refine lv_iconst (v := 1) C.1.1 C.1.2.1 dX11_give_6 (by decide) ?_
  refine lv_bipush (v := 100) C.1.1 C.1.2.1 dX11_give_7 (by decide) ?_
  obtain ⟨q2, hq2, hF⟩ := bnd_some hF
  refine g_callSi C X xv_X11_214 (kX11_isWithin O.1.1 C.2.2.2.2.1 N x2 1 100 q1.2.2 q2 hq2) (Nat.le_of_ble_eq_true rfl) (Nat.le_of_ble_eq_true rfl) (Nat.le_of_ble_eq_true rfl) (Nat.le_of_ble_eq_true rfl) rfl hl.1 rfl (Nat.le_of_ble_eq_true rfl) dX11_give_9 (fun H locs X => ?_)
  refine lv_if_ne (tgt := 24) C.1.1 C.1.2.1 dX11_give_12 (by decide) (fun h_z => ?_) (fun h_z => ?_)
  · rw [if_neg h_z] at hF
    exact bX11_give_24 C O Tb X (lv_sub hl [0, 1, 2] rfl) hF
  · rw [if_pos h_z] at hF
    exact bX11_give_15 C O Tb X (lv_sub hl [0] rfl) hF
noncomputable def fX11_give (N : Nat) (x1 : Int32) (x2 : Int32) (S : gS) : Option (tR) := fX11_give_b0 N x1 x2 S
theorem kX11_give {l : Launch} {D : va_G} {g : Nat → Nat} {cI cB cZ cQ : ClassId} {Am : (Nat → Prop) → State → Heap → Prop} {aK aV : Nat → Nat} (O : tO l g cI cB cZ cQ Am aK aV) (P : gAm Am) (N : Nat) (x1 : Int32) (x2 : Int32) (S : gS) (o : tR) (hF : fX11_give N x1 x2 S = some o) : gN l yX11_give cX11_give 3 ((some .int)) 7 1 D (xtys cI cB cZ cQ) (xcell g cI cB cZ cQ) xord g Am [.ref (g 0), .int x1, .int x2] S false o :=
  gN_of P (by decide) (Nat.le_of_ble_eq_true rfl) (fun p e s m args below meth c ls C Tb X hl => bX11_give_0 C O Tb X (lv_sub hl [0, 1, 2] rfl) hF)
-- X11.then
noncomputable def fX11_then_b100 (N : Nat) (S : gS) : Option (tR) := some (0, S 51 4, S)
theorem bX11_then_100 {N : Nat} {S : gS} {H : Heap} {locs : List Loc} {ls : Array Slot} {o : tR} (C : gC p s m args meth c cX11_then 4 RX11 ((some .int)) D (xtys cI cB cZ cQ) xord g Am) (O : tO l g cI cB cZ cQ Am aK aV) (Tb : ∀ x ∈ c.exceptionTable.toList, False) (X : gX D (xcell g cI cB cZ cQ) xord g S s H locs) (hl : lv_has ls 4 [(0, .ref (g 0))]) (hF : fX11_then_b100 N S = some o) : W p l e (rmx 7 3) s m args below meth c H locs 3 18 (gEX below args s D (xtys cI cB cZ cQ) (xcell g cI cB cZ cQ) xord g 3 false o) (F0 m 100 ls []) := by
  unfold fX11_then_b100 at hF
  refine lv_aload_n C.1.1 C.1.2.1 dX11_then_100 rfl (lv_at hl 0 rfl) ?_
  refine xg_X11_36 C O.1.1 X (k := 0) rfl (j := 51) rfl dX11_then_101 ?_
  refine xg_X11_256 C O.1.1 X (k := 51) rfl dX11_then_104 ?_
  cases hF
  exact t_iret C X (by decide) (by decide) dX11_then_107
noncomputable def fX11_then_b92 (N : Nat) (S : gS) : Option (tR) := some (0, S 51 3, S)
theorem bX11_then_92 {N : Nat} {S : gS} {H : Heap} {locs : List Loc} {ls : Array Slot} {o : tR} (C : gC p s m args meth c cX11_then 4 RX11 ((some .int)) D (xtys cI cB cZ cQ) xord g Am) (O : tO l g cI cB cZ cQ Am aK aV) (Tb : ∀ x ∈ c.exceptionTable.toList, False) (X : gX D (xcell g cI cB cZ cQ) xord g S s H locs) (hl : lv_has ls 4 [(0, .ref (g 0))]) (hF : fX11_then_b92 N S = some o) : W p l e (rmx 7 3) s m args below meth c H locs 3 18 (gEX below args s D (xtys cI cB cZ cQ) (xcell g cI cB cZ cQ) xord g 3 false o) (F0 m 92 ls []) := by
  unfold fX11_then_b92 at hF
  refine lv_aload_n C.1.1 C.1.2.1 dX11_then_92 rfl (lv_at hl 0 rfl) ?_
  refine xg_X11_36 C O.1.1 X (k := 0) rfl (j := 51) rfl dX11_then_93 ?_
  refine xg_X11_254 C O.1.1 X (k := 51) rfl dX11_then_96 ?_
  cases hF
  exact t_iret C X (by decide) (by decide) dX11_then_99
noncomputable def fX11_then_b84 (N : Nat) (S : gS) : Option (tR) := some (0, S 51 2, S)
theorem bX11_then_84 {N : Nat} {S : gS} {H : Heap} {locs : List Loc} {ls : Array Slot} {o : tR} (C : gC p s m args meth c cX11_then 4 RX11 ((some .int)) D (xtys cI cB cZ cQ) xord g Am) (O : tO l g cI cB cZ cQ Am aK aV) (Tb : ∀ x ∈ c.exceptionTable.toList, False) (X : gX D (xcell g cI cB cZ cQ) xord g S s H locs) (hl : lv_has ls 4 [(0, .ref (g 0))]) (hF : fX11_then_b84 N S = some o) : W p l e (rmx 7 3) s m args below meth c H locs 3 18 (gEX below args s D (xtys cI cB cZ cQ) (xcell g cI cB cZ cQ) xord g 3 false o) (F0 m 84 ls []) := by
  unfold fX11_then_b84 at hF
  refine lv_aload_n C.1.1 C.1.2.1 dX11_then_84 rfl (lv_at hl 0 rfl) ?_
  refine xg_X11_36 C O.1.1 X (k := 0) rfl (j := 51) rfl dX11_then_85 ?_
  refine xg_X11_252 C O.1.1 X (k := 51) rfl dX11_then_88 ?_
  cases hF
  exact t_iret C X (by decide) (by decide) dX11_then_91
noncomputable def fX11_then_b76 (N : Nat) (S : gS) : Option (tR) := some (0, S 51 1, S)
theorem bX11_then_76 {N : Nat} {S : gS} {H : Heap} {locs : List Loc} {ls : Array Slot} {o : tR} (C : gC p s m args meth c cX11_then 4 RX11 ((some .int)) D (xtys cI cB cZ cQ) xord g Am) (O : tO l g cI cB cZ cQ Am aK aV) (Tb : ∀ x ∈ c.exceptionTable.toList, False) (X : gX D (xcell g cI cB cZ cQ) xord g S s H locs) (hl : lv_has ls 4 [(0, .ref (g 0))]) (hF : fX11_then_b76 N S = some o) : W p l e (rmx 7 3) s m args below meth c H locs 3 18 (gEX below args s D (xtys cI cB cZ cQ) (xcell g cI cB cZ cQ) xord g 3 false o) (F0 m 76 ls []) := by
  unfold fX11_then_b76 at hF
  refine lv_aload_n C.1.1 C.1.2.1 dX11_then_76 rfl (lv_at hl 0 rfl) ?_
  refine xg_X11_36 C O.1.1 X (k := 0) rfl (j := 51) rfl dX11_then_77 ?_
  refine xg_X11_250 C O.1.1 X (k := 51) rfl dX11_then_80 ?_
  cases hF
  exact t_iret C X (by decide) (by decide) dX11_then_83
noncomputable def fX11_then_b0 (N : Nat) (x1 : Int32) (x2 : Int32) (x3 : Int32) (S : gS) : Option (tR) := bnx (fX11_needGuild N x1 S) fun q1 => (bnx (fX11_needWhat N x3 3 q1.2.2) fun q2 => (bnx (fX11_needWithin N x2 0 60 q2.2.2) fun q3 => (lt (xtw q3.2.2) fun T1 => (bnd (fX10_begin N T1 21 x1 q3.2.2) fun q4 => (lt (xtw q4.2) fun T2 => (bnd (fX10_passHours N T2 x2 q4.2) fun q5 => (if x3 = 0 then fX11_then_b76 N q5.2 else if x3 = 1 then fX11_then_b84 N q5.2 else if x3 = 2 then fX11_then_b92 N q5.2 else fX11_then_b100 N q5.2)))))))
theorem bX11_then_0 {N : Nat} {x1 : Int32} {x2 : Int32} {x3 : Int32} {S : gS} {H : Heap} {locs : List Loc} {ls : Array Slot} {o : tR} (C : gC p s m args meth c cX11_then 4 RX11 ((some .int)) D (xtys cI cB cZ cQ) xord g Am) (O : tO l g cI cB cZ cQ Am aK aV) (Tb : ∀ x ∈ c.exceptionTable.toList, False) (X : gX D (xcell g cI cB cZ cQ) xord g S s H locs) (hl : lv_has ls 4 [(0, .ref (g 0)), (1, .int x1), (2, .int x2), (3, .int x3)]) (hF : fX11_then_b0 N x1 x2 x3 S = some o) : W p l e (rmx 7 3) s m args below meth c H locs 0 0 (gEX below args s D (xtys cI cB cZ cQ) (xcell g cI cB cZ cQ) xord g 3 false o) (F0 m 0 ls []) := by
  unfold fX11_then_b0 at hF
  refine lv_aload_n C.1.1 C.1.2.1 dX11_then_0 rfl (lv_at hl 0 rfl) ?_
  refine lv_iload_n C.1.1 C.1.2.1 dX11_then_1 rfl (lv_at hl 1 rfl) ?_
  rcases (bnx_some hF).symm with ⟨q1, hq1, zq1, eo⟩ | ⟨q1, hq1, zq1, hF⟩
  · subst eo
    exact t_thr (x_preT C X xv_X11_191 rfl (kX11_needGuild O C.2.2.2.2.1 N x1 S q1 hq1) (Nat.le_of_ble_eq_true rfl) (Nat.le_of_ble_eq_true rfl) (Nat.le_of_ble_eq_true rfl) (Nat.le_of_ble_eq_true rfl) rfl hl.1 rfl (Nat.le_of_ble_eq_true rfl) dX11_then_2) zq1 C Tb X (by decide) (by decide)
  refine t_okv (x_preT C X xv_X11_191 rfl (kX11_needGuild O C.2.2.2.2.1 N x1 S q1 hq1) (Nat.le_of_ble_eq_true rfl) (Nat.le_of_ble_eq_true rfl) (Nat.le_of_ble_eq_true rfl) (Nat.le_of_ble_eq_true rfl) rfl hl.1 rfl (Nat.le_of_ble_eq_true rfl) dX11_then_2) zq1 X (fun H locs X => ?_)
  refine W.widen (k := 1) (n := 6) (by decide) (by decide) ?_
  refine lv_iload_n C.1.1 C.1.2.1 dX11_then_5 rfl (lv_at hl 3 rfl) ?_
  refine lv_iconst (v := 3) C.1.1 C.1.2.1 dX11_then_6 (by decide) ?_
  rcases (bnx_some hF).symm with ⟨q2, hq2, zq2, eo⟩ | ⟨q2, hq2, zq2, hF⟩
  · subst eo
    exact t_thr (t_preS C X xv_X11_236 (kX11_needWhat O C.2.2.2.2.1 N x3 3 q1.2.2 q2 hq2) (Nat.le_of_ble_eq_true rfl) (Nat.le_of_ble_eq_true rfl) (Nat.le_of_ble_eq_true rfl) (Nat.le_of_ble_eq_true rfl) rfl hl.1 rfl (Nat.le_of_ble_eq_true rfl) dX11_then_7) zq2 C Tb X (by decide) (by decide)
  refine t_okv (t_preS C X xv_X11_236 (kX11_needWhat O C.2.2.2.2.1 N x3 3 q1.2.2 q2 hq2) (Nat.le_of_ble_eq_true rfl) (Nat.le_of_ble_eq_true rfl) (Nat.le_of_ble_eq_true rfl) (Nat.le_of_ble_eq_true rfl) rfl hl.1 rfl (Nat.le_of_ble_eq_true rfl) dX11_then_7) zq2 X (fun H locs X => ?_)
  refine W.widen (k := 2) (n := 12) (by decide) (by decide) ?_
  refine lv_iload_n C.1.1 C.1.2.1 dX11_then_10 rfl (lv_at hl 2 rfl) ?_
  refine lv_iconst (v := 0) C.1.1 C.1.2.1 dX11_then_11 (by decide) ?_
  refine lv_bipush (v := 60) C.1.1 C.1.2.1 dX11_then_12 (by decide) ?_
  rcases (bnx_some hF).symm with ⟨q3, hq3, zq3, eo⟩ | ⟨q3, hq3, zq3, hF⟩
  · subst eo
    exact t_thr (t_preS C X xv_X11_239 (kX11_needWithin O C.2.2.2.2.1 N x2 0 60 q2.2.2 q3 hq3) (Nat.le_of_ble_eq_true rfl) (Nat.le_of_ble_eq_true rfl) (Nat.le_of_ble_eq_true rfl) (Nat.le_of_ble_eq_true rfl) rfl hl.1 rfl (Nat.le_of_ble_eq_true rfl) dX11_then_14) zq3 C Tb X (by decide) (by decide)
  refine t_okv (t_preS C X xv_X11_239 (kX11_needWithin O C.2.2.2.2.1 N x2 0 60 q2.2.2 q3 hq3) (Nat.le_of_ble_eq_true rfl) (Nat.le_of_ble_eq_true rfl) (Nat.le_of_ble_eq_true rfl) (Nat.le_of_ble_eq_true rfl) rfl hl.1 rfl (Nat.le_of_ble_eq_true rfl) dX11_then_14) zq3 X (fun H locs X => ?_)
  refine W.widen (k := 3) (n := 18) (by decide) (by decide) ?_
  refine lv_aload_n C.1.1 C.1.2.1 dX11_then_17 rfl (lv_at hl 0 rfl) ?_
  refine xg_X11_36 C O.1.1 X (k := 0) rfl (j := 51) rfl dX11_then_18 ?_
  refine lv_aload_n C.1.1 C.1.2.1 dX11_then_21 rfl (lv_at hl 0 rfl) ?_
  obtain ⟨T1, eT1, hF⟩ := lt_some hF
  have hk_T1 := xtw_k eT1
  refine xg_X11_57 C O.1.1 X (T := T1) eT1 (k := 0) rfl dX11_then_22 ?_
  refine lv_aload_n C.1.1 C.1.2.1 dX11_then_25 rfl (lv_at hl 0 rfl) ?_
  refine xg_X11_19 C O.1.1 X (k := 0) rfl (j := 20) rfl dX11_then_26 ?_
  refine xg_X11_105 C O.1.1 X (k := 20) rfl (j := 21) rfl dX11_then_29 ?_
  refine lv_iload_n C.1.1 C.1.2.1 dX11_then_32 rfl (lv_at hl 1 rfl) ?_
  obtain ⟨q4, hq4, hF⟩ := bnd_some hF
  refine x_callV C X (k := 51) xv_X11_243 (rfl : xk 51 = 10) rfl rfl (by decide) (kX10_begin O.1.1 C.2.2.2.2.1 N T1 21 x1 (hk_T1 : xk T1 = 9) (rfl : xk 21 = 7) q3.2.2 q4 hq4) (Nat.le_of_ble_eq_true rfl) (Nat.le_of_ble_eq_true rfl) (Nat.le_of_ble_eq_true rfl) (Nat.le_of_ble_eq_true rfl) rfl hl.1 rfl (Nat.le_of_ble_eq_true rfl) dX11_then_33 (fun H locs X => ?_)
  refine lv_aload_n C.1.1 C.1.2.1 dX11_then_36 rfl (lv_at hl 0 rfl) ?_
  refine xg_X11_36 C O.1.1 X (k := 0) rfl (j := 51) rfl dX11_then_37 ?_
  refine lv_aload_n C.1.1 C.1.2.1 dX11_then_40 rfl (lv_at hl 0 rfl) ?_
  obtain ⟨T2, eT2, hF⟩ := lt_some hF
  have hk_T2 := xtw_k eT2
  refine xg_X11_57 C O.1.1 X (T := T2) eT2 (k := 0) rfl dX11_then_41 ?_
  refine lv_iload_n C.1.1 C.1.2.1 dX11_then_44 rfl (lv_at hl 2 rfl) ?_
  obtain ⟨q5, hq5, hF⟩ := bnd_some hF
  refine x_callV C X (k := 51) xv_X11_246 (rfl : xk 51 = 10) rfl rfl (by decide) (kX10_passHours O.1.1 C.2.2.2.2.1 N T2 x2 (hk_T2 : xk T2 = 9) q4.2 q5 hq5) (Nat.le_of_ble_eq_true rfl) (Nat.le_of_ble_eq_true rfl) (Nat.le_of_ble_eq_true rfl) (Nat.le_of_ble_eq_true rfl) rfl hl.1 rfl (Nat.le_of_ble_eq_true rfl) dX11_then_45 (fun H locs X => ?_)
  refine lv_iload_n C.1.1 C.1.2.1 dX11_then_48 rfl (lv_at hl 3 rfl) ?_
  by_cases hz_0 : x3 = 0
  · rw [if_pos hz_0] at hF
    refine lv_tableIn (off := 27) (tgt := 76) C.1.1 C.1.2.1 dX11_then_49 (by rw [hz_0]; decide) (by rw [hz_0]; decide) (by rw [hz_0]; decide) (by decide) ?_
    exact bX11_then_76 C O Tb X (lv_sub hl [0] rfl) hF
  rw [if_neg hz_0] at hF
  by_cases hz_1 : x3 = 1
  · rw [if_pos hz_1] at hF
    refine lv_tableIn (off := 35) (tgt := 84) C.1.1 C.1.2.1 dX11_then_49 (by rw [hz_1]; decide) (by rw [hz_1]; decide) (by rw [hz_1]; decide) (by decide) ?_
    exact bX11_then_84 C O Tb X (lv_sub hl [0] rfl) hF
  rw [if_neg hz_1] at hF
  by_cases hz_2 : x3 = 2
  · rw [if_pos hz_2] at hF
    refine lv_tableIn (off := 43) (tgt := 92) C.1.1 C.1.2.1 dX11_then_49 (by rw [hz_2]; decide) (by rw [hz_2]; decide) (by rw [hz_2]; decide) (by decide) ?_
    exact bX11_then_92 C O Tb X (lv_sub hl [0] rfl) hF
  rw [if_neg hz_2] at hF
  refine lv_tableOut (tgt := 100) C.1.1 C.1.2.1 dX11_then_49 (g_tsw 0 2 _ ?_) (by decide) ?_
  · intro i hi1 hi2
    rcases (show i = 0 ∨ i = 1 ∨ i = 2 by omega) with rfl | rfl | rfl
    · exact hz_0
    · exact hz_1
    · exact hz_2
  exact bX11_then_100 C O Tb X (lv_sub hl [0] rfl) hF
noncomputable def fX11_then (N : Nat) (x1 : Int32) (x2 : Int32) (x3 : Int32) (S : gS) : Option (tR) := fX11_then_b0 N x1 x2 x3 S
theorem kX11_then {l : Launch} {D : va_G} {g : Nat → Nat} {cI cB cZ cQ : ClassId} {Am : (Nat → Prop) → State → Heap → Prop} {aK aV : Nat → Nat} (O : tO l g cI cB cZ cQ Am aK aV) (P : gAm Am) (N : Nat) (x1 : Int32) (x2 : Int32) (x3 : Int32) (S : gS) (o : tR) (hF : fX11_then N x1 x2 x3 S = some o) : gN l yX11_then cX11_then 4 ((some .int)) 7 3 D (xtys cI cB cZ cQ) (xcell g cI cB cZ cQ) xord g Am [.ref (g 0), .int x1, .int x2, .int x3] S false o :=
  gN_of P (by decide) (Nat.le_of_ble_eq_true rfl) (fun p e s m args below meth c ls C Tb X hl => bX11_then_0 C O Tb X (lv_sub hl [0, 1, 2, 3] rfl) hF)
-- X11.dripping
noncomputable def fX11_dripping_b0 (N : Nat) (x1 : Int32) (S : gS) : Option (tR) := bnx (fX11_needWithin N x1 1 60 S) fun q1 => (bnd (fX11_dripBits N x1 q1.2.2) fun q2 => (some (0, q2.1, q2.2)))
theorem bX11_dripping_0 {N : Nat} {x1 : Int32} {S : gS} {H : Heap} {locs : List Loc} {ls : Array Slot} {o : tR} (C : gC p s m args meth c cX11_dripping 2 RX11 ((some .int)) D (xtys cI cB cZ cQ) xord g Am) (O : tO l g cI cB cZ cQ Am aK aV) (Tb : ∀ x ∈ c.exceptionTable.toList, False) (X : gX D (xcell g cI cB cZ cQ) xord g S s H locs) (hl : lv_has ls 2 [(0, .ref (g 0)), (1, .int x1)]) (hF : fX11_dripping_b0 N x1 S = some o) : W p l e (rmx 7 1) s m args below meth c H locs 0 0 (gEX below args s D (xtys cI cB cZ cQ) (xcell g cI cB cZ cQ) xord g 1 false o) (F0 m 0 ls []) := by
  unfold fX11_dripping_b0 at hF
  refine lv_iload_n C.1.1 C.1.2.1 dX11_dripping_0 rfl (lv_at hl 1 rfl) ?_
  refine lv_iconst (v := 1) C.1.1 C.1.2.1 dX11_dripping_1 (by decide) ?_
  refine lv_bipush (v := 60) C.1.1 C.1.2.1 dX11_dripping_2 (by decide) ?_
  rcases (bnx_some hF).symm with ⟨q1, hq1, zq1, eo⟩ | ⟨q1, hq1, zq1, hF⟩
  · subst eo
    exact t_thr (t_preS C X xv_X11_239 (kX11_needWithin O C.2.2.2.2.1 N x1 1 60 S q1 hq1) (Nat.le_of_ble_eq_true rfl) (Nat.le_of_ble_eq_true rfl) (Nat.le_of_ble_eq_true rfl) (Nat.le_of_ble_eq_true rfl) rfl hl.1 rfl (Nat.le_of_ble_eq_true rfl) dX11_dripping_4) zq1 C Tb X (by decide) (by decide)
  refine t_okv (t_preS C X xv_X11_239 (kX11_needWithin O C.2.2.2.2.1 N x1 1 60 S q1 hq1) (Nat.le_of_ble_eq_true rfl) (Nat.le_of_ble_eq_true rfl) (Nat.le_of_ble_eq_true rfl) (Nat.le_of_ble_eq_true rfl) rfl hl.1 rfl (Nat.le_of_ble_eq_true rfl) dX11_dripping_4) zq1 X (fun H locs X => ?_)
  refine W.widen (k := 1) (n := 6) (by decide) (by decide) ?_
  refine lv_aload_n C.1.1 C.1.2.1 dX11_dripping_7 rfl (lv_at hl 0 rfl) ?_
  refine lv_iload_n C.1.1 C.1.2.1 dX11_dripping_8 rfl (lv_at hl 1 rfl) ?_
  obtain ⟨q2, hq2, hF⟩ := bnd_some hF
  refine x_callVi C X (k := 0) xv_X11_258 (rfl : xk 0 = 11) rfl rfl (by decide) (kX11_dripBits O.1.1 C.2.2.2.2.1 N x1 q1.2.2 q2 hq2) (Nat.le_of_ble_eq_true rfl) (Nat.le_of_ble_eq_true rfl) (Nat.le_of_ble_eq_true rfl) (Nat.le_of_ble_eq_true rfl) rfl hl.1 rfl (Nat.le_of_ble_eq_true rfl) dX11_dripping_9 (fun H locs X => ?_)
  cases hF
  exact t_iret C X (by decide) (by decide) dX11_dripping_12
noncomputable def fX11_dripping (N : Nat) (x1 : Int32) (S : gS) : Option (tR) := fX11_dripping_b0 N x1 S
theorem kX11_dripping {l : Launch} {D : va_G} {g : Nat → Nat} {cI cB cZ cQ : ClassId} {Am : (Nat → Prop) → State → Heap → Prop} {aK aV : Nat → Nat} (O : tO l g cI cB cZ cQ Am aK aV) (P : gAm Am) (N : Nat) (x1 : Int32) (S : gS) (o : tR) (hF : fX11_dripping N x1 S = some o) : gN l yX11_dripping cX11_dripping 2 ((some .int)) 7 1 D (xtys cI cB cZ cQ) (xcell g cI cB cZ cQ) xord g Am [.ref (g 0), .int x1] S false o :=
  gN_of P (by decide) (Nat.le_of_ble_eq_true rfl) (fun p e s m args below meth c ls C Tb X hl => bX11_dripping_0 C O Tb X (lv_sub hl [0, 1] rfl) hF)
-- X11.first
noncomputable def fX11_first_b68 (N : Nat) (S : gS) : Option (tR) := some (0, (-1), S)
theorem bX11_first_68 {N : Nat} {S : gS} {H : Heap} {locs : List Loc} {ls : Array Slot} {o : tR} (C : gC p s m args meth c cX11_first 3 RX11 ((some .int)) D (xtys cI cB cZ cQ) xord g Am) (O : tO l g cI cB cZ cQ Am aK aV) (Tb : ∀ x ∈ c.exceptionTable.toList, False) (X : gX D (xcell g cI cB cZ cQ) xord g S s H locs) (hl : lv_has ls 3 []) (hF : fX11_first_b68 N S = some o) : W p l e (rmx 7 1) s m args below meth c H locs 1 6 (gEX below args s D (xtys cI cB cZ cQ) (xcell g cI cB cZ cQ) xord g 1 false o) (F0 m 68 ls []) := by
  unfold fX11_first_b68 at hF
  refine lv_iconst (v := (-1)) C.1.1 C.1.2.1 dX11_first_68 (by decide) ?_
  cases hF
  exact t_iret (x := (-1)) C X (by decide) (by decide) dX11_first_69
noncomputable def fX11_first_b62 (N : Nat) (r26 : Int32 → gS → Option (tR)) (x2 : Int32) (S : gS) : Option (tR) := r26 ((x2 + 1 : Int32)) S
theorem bX11_first_62 {N : Nat} {r26 : Int32 → gS → Option (tR)} {x2 : Int32} {S : gS} {H : Heap} {locs : List Loc} {ls : Array Slot} {o : tR} (C : gC p s m args meth c cX11_first 3 RX11 ((some .int)) D (xtys cI cB cZ cQ) xord g Am) (O : tO l g cI cB cZ cQ Am aK aV) (Tb : ∀ x ∈ c.exceptionTable.toList, False) (K26 : ∀ (x2 : Int32) (S : gS) (H : Heap) (locs : List Loc) (ls : Array Slot), gX D (xcell g cI cB cZ cQ) xord g S s H locs → lv_has ls 3 [(0, .ref (g 0)), (2, .int x2)] → r26 x2 S = some o → W p l e (rmx 7 1) s m args below meth c H locs 1 6 (gEX below args s D (xtys cI cB cZ cQ) (xcell g cI cB cZ cQ) xord g 1 false o) (F0 m 26 ls [])) (X : gX D (xcell g cI cB cZ cQ) xord g S s H locs) (hl : lv_has ls 3 [(0, .ref (g 0)), (2, .int x2)]) (hF : fX11_first_b62 N r26 x2 S = some o) : W p l e (rmx 7 1) s m args below meth c H locs 1 6 (gEX below args s D (xtys cI cB cZ cQ) (xcell g cI cB cZ cQ) xord g 1 false o) (F0 m 62 ls []) := by
  unfold fX11_first_b62 at hF
  refine lv_iinc (v := (x2 + 1 : Int32)) (lv' := [(2, .int ((x2 + 1 : Int32))), (0, .ref (g 0))]) C.1.1 C.1.2.1 dX11_first_62 hl (k := 1) rfl rfl (by decide) rfl (fun ls hl => ?_)
  refine lv_goto (tgt := 26) C.1.1 C.1.2.1 dX11_first_65 (by decide) ?_
  exact K26 _ _ _ _ _ X (lv_sub hl [1, 0] rfl) hF
noncomputable def fX11_first_b60 (N : Nat) (x2 : Int32) (S : gS) : Option (tR) := some (0, x2, S)
theorem bX11_first_60 {N : Nat} {x2 : Int32} {S : gS} {H : Heap} {locs : List Loc} {ls : Array Slot} {o : tR} (C : gC p s m args meth c cX11_first 3 RX11 ((some .int)) D (xtys cI cB cZ cQ) xord g Am) (O : tO l g cI cB cZ cQ Am aK aV) (Tb : ∀ x ∈ c.exceptionTable.toList, False) (X : gX D (xcell g cI cB cZ cQ) xord g S s H locs) (hl : lv_has ls 3 [(2, .int x2)]) (hF : fX11_first_b60 N x2 S = some o) : W p l e (rmx 7 1) s m args below meth c H locs 1 6 (gEX below args s D (xtys cI cB cZ cQ) (xcell g cI cB cZ cQ) xord g 1 false o) (F0 m 60 ls []) := by
  unfold fX11_first_b60 at hF
  refine lv_iload_n C.1.1 C.1.2.1 dX11_first_60 rfl (lv_at hl 0 rfl) ?_
  cases hF
  exact t_iret C X (by decide) (by decide) dX11_first_61
noncomputable def fX11_first_b32 (N : Nat) (r26 : Int32 → gS → Option (tR)) (x2 : Int32) (S : gS) : Option (tR) := lt (xtw S) fun T1 => (lt (xtw S) fun T2 => (bnd (fX9_wetOf N T2 (S 51 5) S) fun q1 => (bnd (fX10_passHour N T1 q1.1 q1.2) fun q2 => (if q2.1 = 0 then fX11_first_b62 N r26 x2 q2.2 else fX11_first_b60 N x2 q2.2))))
theorem bX11_first_32 {N : Nat} {r26 : Int32 → gS → Option (tR)} {x2 : Int32} {S : gS} {H : Heap} {locs : List Loc} {ls : Array Slot} {o : tR} (C : gC p s m args meth c cX11_first 3 RX11 ((some .int)) D (xtys cI cB cZ cQ) xord g Am) (O : tO l g cI cB cZ cQ Am aK aV) (Tb : ∀ x ∈ c.exceptionTable.toList, False) (K26 : ∀ (x2 : Int32) (S : gS) (H : Heap) (locs : List Loc) (ls : Array Slot), gX D (xcell g cI cB cZ cQ) xord g S s H locs → lv_has ls 3 [(0, .ref (g 0)), (2, .int x2)] → r26 x2 S = some o → W p l e (rmx 7 1) s m args below meth c H locs 1 6 (gEX below args s D (xtys cI cB cZ cQ) (xcell g cI cB cZ cQ) xord g 1 false o) (F0 m 26 ls [])) (X : gX D (xcell g cI cB cZ cQ) xord g S s H locs) (hl : lv_has ls 3 [(0, .ref (g 0)), (2, .int x2)]) (hF : fX11_first_b32 N r26 x2 S = some o) : W p l e (rmx 7 1) s m args below meth c H locs 1 6 (gEX below args s D (xtys cI cB cZ cQ) (xcell g cI cB cZ cQ) xord g 1 false o) (F0 m 32 ls []) := by
  unfold fX11_first_b32 at hF
  refine lv_aload_n C.1.1 C.1.2.1 dX11_first_32 rfl (lv_at hl 0 rfl) ?_
  refine xg_X11_36 C O.1.1 X (k := 0) rfl (j := 51) rfl dX11_first_33 ?_
  refine lv_aload_n C.1.1 C.1.2.1 dX11_first_36 rfl (lv_at hl 0 rfl) ?_
  obtain ⟨T1, eT1, hF⟩ := lt_some hF
  have hk_T1 := xtw_k eT1
  refine xg_X11_57 C O.1.1 X (T := T1) eT1 (k := 0) rfl dX11_first_37 ?_
  refine lv_aload_n C.1.1 C.1.2.1 dX11_first_40 rfl (lv_at hl 0 rfl) ?_
  obtain ⟨T2, eT2, hF⟩ := lt_some hF
  have hk_T2 := xtw_k eT2
  refine xg_X11_57 C O.1.1 X (T := T2) eT2 (k := 0) rfl dX11_first_41 ?_
  refine lv_aload_n C.1.1 C.1.2.1 dX11_first_44 rfl (lv_at hl 0 rfl) ?_
  refine xg_X11_36 C O.1.1 X (k := 0) rfl (j := 51) rfl dX11_first_45 ?_
  refine xg_X11_261 C O.1.1 X (k := 51) rfl dX11_first_48 ?_
  obtain ⟨q1, hq1, hF⟩ := bnd_some hF
  refine x_callVi C X (k := T2) xv_X11_117 hk_T2 rfl rfl (by decide) (kX9_wetOf O.1.1 C.2.2.2.2.1 N T2 (S 51 5) (hk_T2 : xk T2 = 9) S q1 hq1) (Nat.le_of_ble_eq_true rfl) (Nat.le_of_ble_eq_true rfl) (Nat.le_of_ble_eq_true rfl) (Nat.le_of_ble_eq_true rfl) rfl hl.1 rfl (Nat.le_of_ble_eq_true rfl) dX11_first_51 (fun H locs X => ?_)
  obtain ⟨q2, hq2, hF⟩ := bnd_some hF
  refine x_callVi C X (k := 51) xv_X11_262 (rfl : xk 51 = 10) rfl rfl (by decide) (kX10_passHour O.1.1 C.2.2.2.2.1 N T1 q1.1 (hk_T1 : xk T1 = 9) q1.2 q2 hq2) (Nat.le_of_ble_eq_true rfl) (Nat.le_of_ble_eq_true rfl) (Nat.le_of_ble_eq_true rfl) (Nat.le_of_ble_eq_true rfl) rfl hl.1 rfl (Nat.le_of_ble_eq_true rfl) dX11_first_54 (fun H locs X => ?_)
  refine lv_if_eq (tgt := 62) C.1.1 C.1.2.1 dX11_first_57 (by decide) (fun h_z => ?_) (fun h_z => ?_)
  · rw [if_pos h_z] at hF
    exact bX11_first_62 C O Tb K26 X (lv_sub hl [0, 1] rfl) hF
  · rw [if_neg h_z] at hF
    exact bX11_first_60 C O Tb X (lv_sub hl [1] rfl) hF
noncomputable def fX11_first_b26 (N : Nat) (r26 : Int32 → gS → Option (tR)) (x2 : Int32) (S : gS) : Option (tR) := if 60 < x2 then fX11_first_b68 N S else fX11_first_b32 N r26 x2 S
theorem bX11_first_26 {N : Nat} {r26 : Int32 → gS → Option (tR)} {x2 : Int32} {S : gS} {H : Heap} {locs : List Loc} {ls : Array Slot} {o : tR} (C : gC p s m args meth c cX11_first 3 RX11 ((some .int)) D (xtys cI cB cZ cQ) xord g Am) (O : tO l g cI cB cZ cQ Am aK aV) (Tb : ∀ x ∈ c.exceptionTable.toList, False) (K26 : ∀ (x2 : Int32) (S : gS) (H : Heap) (locs : List Loc) (ls : Array Slot), gX D (xcell g cI cB cZ cQ) xord g S s H locs → lv_has ls 3 [(0, .ref (g 0)), (2, .int x2)] → r26 x2 S = some o → W p l e (rmx 7 1) s m args below meth c H locs 1 6 (gEX below args s D (xtys cI cB cZ cQ) (xcell g cI cB cZ cQ) xord g 1 false o) (F0 m 26 ls [])) (X : gX D (xcell g cI cB cZ cQ) xord g S s H locs) (hl : lv_has ls 3 [(0, .ref (g 0)), (2, .int x2)]) (hF : fX11_first_b26 N r26 x2 S = some o) : W p l e (rmx 7 1) s m args below meth c H locs 1 6 (gEX below args s D (xtys cI cB cZ cQ) (xcell g cI cB cZ cQ) xord g 1 false o) (F0 m 26 ls []) := by
  unfold fX11_first_b26 at hF
  refine lv_iload_n C.1.1 C.1.2.1 dX11_first_26 rfl (lv_at hl 1 rfl) ?_
  refine lv_bipush (v := 60) C.1.1 C.1.2.1 dX11_first_27 (by decide) ?_
  refine lv_icmp_gt (tgt := 68) C.1.1 C.1.2.1 dX11_first_29 (by decide) (fun h_z => ?_) (fun h_z => ?_)
  · rw [if_pos h_z] at hF
    exact bX11_first_68 C O Tb X (lv_sub hl [] rfl) hF
  · rw [if_neg h_z] at hF
    exact bX11_first_32 C O Tb K26 X (lv_sub hl [0, 1] rfl) hF
noncomputable def fX11_first_h26 (N : Nat) : Nat → Int32 → gS → Option (tR)
  | 0, _, _ => none
  | n + 1, x2, S => fX11_first_b26 N (fX11_first_h26 N n) x2 S
theorem hX11_first_26 {N : Nat} {o : tR} (C : gC p s m args meth c cX11_first 3 RX11 ((some .int)) D (xtys cI cB cZ cQ) xord g Am) (O : tO l g cI cB cZ cQ Am aK aV) (Tb : ∀ x ∈ c.exceptionTable.toList, False) : ∀ (n : Nat) (x2 : Int32) (S : gS) (H : Heap) (locs : List Loc) (ls : Array Slot), gX D (xcell g cI cB cZ cQ) xord g S s H locs → lv_has ls 3 [(0, .ref (g 0)), (2, .int x2)] → fX11_first_h26 N n x2 S = some o → W p l e (rmx 7 1) s m args below meth c H locs 1 6 (gEX below args s D (xtys cI cB cZ cQ) (xcell g cI cB cZ cQ) xord g 1 false o) (F0 m 26 ls []) := by
  intro n
  induction n with
  | zero =>
    intro x2 S H locs ls X hl hF
    exact absurd (show (none : Option (tR)) = some o from hF) (by simp)
  | succ n ih =>
    intro x2 S H locs ls X hl hF
    have hF : fX11_first_b26 N (fX11_first_h26 N n) x2 S = some o := hF
    exact bX11_first_26 C O Tb ih X hl hF
noncomputable def fX11_first_b0 (N : Nat) (x1 : Int32) (S : gS) : Option (tR) := bnx (fX11_needGuild N x1 S) fun q1 => (lt (xtw q1.2.2) fun T1 => (bnd (fX10_begin N T1 21 x1 q1.2.2) fun q2 => (fX11_first_h26 N N 1 q2.2)))
theorem bX11_first_0 {N : Nat} {x1 : Int32} {S : gS} {H : Heap} {locs : List Loc} {ls : Array Slot} {o : tR} (C : gC p s m args meth c cX11_first 3 RX11 ((some .int)) D (xtys cI cB cZ cQ) xord g Am) (O : tO l g cI cB cZ cQ Am aK aV) (Tb : ∀ x ∈ c.exceptionTable.toList, False) (X : gX D (xcell g cI cB cZ cQ) xord g S s H locs) (hl : lv_has ls 3 [(0, .ref (g 0)), (1, .int x1)]) (hF : fX11_first_b0 N x1 S = some o) : W p l e (rmx 7 1) s m args below meth c H locs 0 0 (gEX below args s D (xtys cI cB cZ cQ) (xcell g cI cB cZ cQ) xord g 1 false o) (F0 m 0 ls []) := by
  unfold fX11_first_b0 at hF
  refine lv_aload_n C.1.1 C.1.2.1 dX11_first_0 rfl (lv_at hl 0 rfl) ?_
  refine lv_iload_n C.1.1 C.1.2.1 dX11_first_1 rfl (lv_at hl 1 rfl) ?_
  rcases (bnx_some hF).symm with ⟨q1, hq1, zq1, eo⟩ | ⟨q1, hq1, zq1, hF⟩
  · subst eo
    exact t_thr (x_preT C X xv_X11_191 rfl (kX11_needGuild O C.2.2.2.2.1 N x1 S q1 hq1) (Nat.le_of_ble_eq_true rfl) (Nat.le_of_ble_eq_true rfl) (Nat.le_of_ble_eq_true rfl) (Nat.le_of_ble_eq_true rfl) rfl hl.1 rfl (Nat.le_of_ble_eq_true rfl) dX11_first_2) zq1 C Tb X (by decide) (by decide)
  refine t_okv (x_preT C X xv_X11_191 rfl (kX11_needGuild O C.2.2.2.2.1 N x1 S q1 hq1) (Nat.le_of_ble_eq_true rfl) (Nat.le_of_ble_eq_true rfl) (Nat.le_of_ble_eq_true rfl) (Nat.le_of_ble_eq_true rfl) rfl hl.1 rfl (Nat.le_of_ble_eq_true rfl) dX11_first_2) zq1 X (fun H locs X => ?_)
  refine W.widen (k := 1) (n := 6) (by decide) (by decide) ?_
  refine lv_aload_n C.1.1 C.1.2.1 dX11_first_5 rfl (lv_at hl 0 rfl) ?_
  refine xg_X11_36 C O.1.1 X (k := 0) rfl (j := 51) rfl dX11_first_6 ?_
  refine lv_aload_n C.1.1 C.1.2.1 dX11_first_9 rfl (lv_at hl 0 rfl) ?_
  obtain ⟨T1, eT1, hF⟩ := lt_some hF
  have hk_T1 := xtw_k eT1
  refine xg_X11_57 C O.1.1 X (T := T1) eT1 (k := 0) rfl dX11_first_10 ?_
  refine lv_aload_n C.1.1 C.1.2.1 dX11_first_13 rfl (lv_at hl 0 rfl) ?_
  refine xg_X11_19 C O.1.1 X (k := 0) rfl (j := 20) rfl dX11_first_14 ?_
  refine xg_X11_105 C O.1.1 X (k := 20) rfl (j := 21) rfl dX11_first_17 ?_
  refine lv_iload_n C.1.1 C.1.2.1 dX11_first_20 rfl (lv_at hl 1 rfl) ?_
  obtain ⟨q2, hq2, hF⟩ := bnd_some hF
  refine x_callV C X (k := 51) xv_X11_243 (rfl : xk 51 = 10) rfl rfl (by decide) (kX10_begin O.1.1 C.2.2.2.2.1 N T1 21 x1 (hk_T1 : xk T1 = 9) (rfl : xk 21 = 7) q1.2.2 q2 hq2) (Nat.le_of_ble_eq_true rfl) (Nat.le_of_ble_eq_true rfl) (Nat.le_of_ble_eq_true rfl) (Nat.le_of_ble_eq_true rfl) rfl hl.1 rfl (Nat.le_of_ble_eq_true rfl) dX11_first_21 (fun H locs X => ?_)
  refine lv_iconst (v := 1) C.1.1 C.1.2.1 dX11_first_24 (by decide) ?_
  refine lv_istore_n (lv' := [(2, .int 1), (0, .ref (g 0)), (1, .int x1)]) C.1.1 C.1.2.1 dX11_first_25 rfl hl (by decide) rfl (fun ls hl => ?_)
  exact hX11_first_26 C O Tb N _ _ _ _ _ X (lv_sub hl [1, 0] rfl) hF
noncomputable def fX11_first (N : Nat) (x1 : Int32) (S : gS) : Option (tR) := fX11_first_b0 N x1 S
theorem kX11_first {l : Launch} {D : va_G} {g : Nat → Nat} {cI cB cZ cQ : ClassId} {Am : (Nat → Prop) → State → Heap → Prop} {aK aV : Nat → Nat} (O : tO l g cI cB cZ cQ Am aK aV) (P : gAm Am) (N : Nat) (x1 : Int32) (S : gS) (o : tR) (hF : fX11_first N x1 S = some o) : gN l yX11_first cX11_first 3 ((some .int)) 7 1 D (xtys cI cB cZ cQ) (xcell g cI cB cZ cQ) xord g Am [.ref (g 0), .int x1] S false o :=
  gN_of P (by decide) (Nat.le_of_ble_eq_true rfl) (fun p e s m args below meth c ls C Tb X hl => bX11_first_0 C O Tb X (lv_sub hl [0, 1] rfl) hF)
-- X11.dismissed
noncomputable def fX11_dismissed_b81 (N : Nat) (S : gS) : Option (tR) := some (0, (-1), S)
theorem bX11_dismissed_81 {N : Nat} {S : gS} {H : Heap} {locs : List Loc} {ls : Array Slot} {o : tR} (C : gC p s m args meth c cX11_dismissed 3 RX11 ((some .int)) D (xtys cI cB cZ cQ) xord g Am) (O : tO l g cI cB cZ cQ Am aK aV) (Tb : ∀ x ∈ c.exceptionTable.toList, False) (X : gX D (xcell g cI cB cZ cQ) xord g S s H locs) (hl : lv_has ls 3 []) (hF : fX11_dismissed_b81 N S = some o) : W p l e (rmx 7 1) s m args below meth c H locs 1 6 (gEX below args s D (xtys cI cB cZ cQ) (xcell g cI cB cZ cQ) xord g 1 false o) (F0 m 81 ls []) := by
  unfold fX11_dismissed_b81 at hF
  refine lv_iconst (v := (-1)) C.1.1 C.1.2.1 dX11_dismissed_81 (by decide) ?_
  cases hF
  exact t_iret (x := (-1)) C X (by decide) (by decide) dX11_dismissed_82
noncomputable def fX11_dismissed_b75 (N : Nat) (r44 : Int32 → gS → Option (tR)) (x2 : Int32) (S : gS) : Option (tR) := r44 ((x2 + 1 : Int32)) S
theorem bX11_dismissed_75 {N : Nat} {r44 : Int32 → gS → Option (tR)} {x2 : Int32} {S : gS} {H : Heap} {locs : List Loc} {ls : Array Slot} {o : tR} (C : gC p s m args meth c cX11_dismissed 3 RX11 ((some .int)) D (xtys cI cB cZ cQ) xord g Am) (O : tO l g cI cB cZ cQ Am aK aV) (Tb : ∀ x ∈ c.exceptionTable.toList, False) (K44 : ∀ (x2 : Int32) (S : gS) (H : Heap) (locs : List Loc) (ls : Array Slot), gX D (xcell g cI cB cZ cQ) xord g S s H locs → lv_has ls 3 [(0, .ref (g 0)), (2, .int x2)] → r44 x2 S = some o → W p l e (rmx 7 1) s m args below meth c H locs 1 6 (gEX below args s D (xtys cI cB cZ cQ) (xcell g cI cB cZ cQ) xord g 1 false o) (F0 m 44 ls [])) (X : gX D (xcell g cI cB cZ cQ) xord g S s H locs) (hl : lv_has ls 3 [(0, .ref (g 0)), (2, .int x2)]) (hF : fX11_dismissed_b75 N r44 x2 S = some o) : W p l e (rmx 7 1) s m args below meth c H locs 1 6 (gEX below args s D (xtys cI cB cZ cQ) (xcell g cI cB cZ cQ) xord g 1 false o) (F0 m 75 ls []) := by
  unfold fX11_dismissed_b75 at hF
  refine lv_iinc (v := (x2 + 1 : Int32)) (lv' := [(2, .int ((x2 + 1 : Int32))), (0, .ref (g 0))]) C.1.1 C.1.2.1 dX11_dismissed_75 hl (k := 1) rfl rfl (by decide) rfl (fun ls hl => ?_)
  refine lv_goto (tgt := 44) C.1.1 C.1.2.1 dX11_dismissed_78 (by decide) ?_
  exact K44 _ _ _ _ _ X (lv_sub hl [1, 0] rfl) hF
noncomputable def fX11_dismissed_b73 (N : Nat) (x2 : Int32) (S : gS) : Option (tR) := some (0, x2, S)
theorem bX11_dismissed_73 {N : Nat} {x2 : Int32} {S : gS} {H : Heap} {locs : List Loc} {ls : Array Slot} {o : tR} (C : gC p s m args meth c cX11_dismissed 3 RX11 ((some .int)) D (xtys cI cB cZ cQ) xord g Am) (O : tO l g cI cB cZ cQ Am aK aV) (Tb : ∀ x ∈ c.exceptionTable.toList, False) (X : gX D (xcell g cI cB cZ cQ) xord g S s H locs) (hl : lv_has ls 3 [(2, .int x2)]) (hF : fX11_dismissed_b73 N x2 S = some o) : W p l e (rmx 7 1) s m args below meth c H locs 1 6 (gEX below args s D (xtys cI cB cZ cQ) (xcell g cI cB cZ cQ) xord g 1 false o) (F0 m 73 ls []) := by
  unfold fX11_dismissed_b73 at hF
  refine lv_iload_n C.1.1 C.1.2.1 dX11_dismissed_73 rfl (lv_at hl 0 rfl) ?_
  cases hF
  exact t_iret C X (by decide) (by decide) dX11_dismissed_74
noncomputable def fX11_dismissed_b50 (N : Nat) (r44 : Int32 → gS → Option (tR)) (x2 : Int32) (S : gS) : Option (tR) := lt (xtw S) fun T1 => (bnd (fX10_passHours N T1 1 S) fun q1 => (if (q1.2 51 4) = ((-1)) then fX11_dismissed_b73 N x2 q1.2 else fX11_dismissed_b75 N r44 x2 q1.2))
theorem bX11_dismissed_50 {N : Nat} {r44 : Int32 → gS → Option (tR)} {x2 : Int32} {S : gS} {H : Heap} {locs : List Loc} {ls : Array Slot} {o : tR} (C : gC p s m args meth c cX11_dismissed 3 RX11 ((some .int)) D (xtys cI cB cZ cQ) xord g Am) (O : tO l g cI cB cZ cQ Am aK aV) (Tb : ∀ x ∈ c.exceptionTable.toList, False) (K44 : ∀ (x2 : Int32) (S : gS) (H : Heap) (locs : List Loc) (ls : Array Slot), gX D (xcell g cI cB cZ cQ) xord g S s H locs → lv_has ls 3 [(0, .ref (g 0)), (2, .int x2)] → r44 x2 S = some o → W p l e (rmx 7 1) s m args below meth c H locs 1 6 (gEX below args s D (xtys cI cB cZ cQ) (xcell g cI cB cZ cQ) xord g 1 false o) (F0 m 44 ls [])) (X : gX D (xcell g cI cB cZ cQ) xord g S s H locs) (hl : lv_has ls 3 [(0, .ref (g 0)), (2, .int x2)]) (hF : fX11_dismissed_b50 N r44 x2 S = some o) : W p l e (rmx 7 1) s m args below meth c H locs 1 6 (gEX below args s D (xtys cI cB cZ cQ) (xcell g cI cB cZ cQ) xord g 1 false o) (F0 m 50 ls []) := by
  unfold fX11_dismissed_b50 at hF
  refine lv_aload_n C.1.1 C.1.2.1 dX11_dismissed_50 rfl (lv_at hl 0 rfl) ?_
  refine xg_X11_36 C O.1.1 X (k := 0) rfl (j := 51) rfl dX11_dismissed_51 ?_
  refine lv_aload_n C.1.1 C.1.2.1 dX11_dismissed_54 rfl (lv_at hl 0 rfl) ?_
  obtain ⟨T1, eT1, hF⟩ := lt_some hF
  have hk_T1 := xtw_k eT1
  refine xg_X11_57 C O.1.1 X (T := T1) eT1 (k := 0) rfl dX11_dismissed_55 ?_
  refine lv_iconst (v := 1) C.1.1 C.1.2.1 dX11_dismissed_58 (by decide) ?_
  obtain ⟨q1, hq1, hF⟩ := bnd_some hF
  refine x_callV C X (k := 51) xv_X11_246 (rfl : xk 51 = 10) rfl rfl (by decide) (kX10_passHours O.1.1 C.2.2.2.2.1 N T1 1 (hk_T1 : xk T1 = 9) S q1 hq1) (Nat.le_of_ble_eq_true rfl) (Nat.le_of_ble_eq_true rfl) (Nat.le_of_ble_eq_true rfl) (Nat.le_of_ble_eq_true rfl) rfl hl.1 rfl (Nat.le_of_ble_eq_true rfl) dX11_dismissed_59 (fun H locs X => ?_)
  refine lv_aload_n C.1.1 C.1.2.1 dX11_dismissed_62 rfl (lv_at hl 0 rfl) ?_
  refine xg_X11_36 C O.1.1 X (k := 0) rfl (j := 51) rfl dX11_dismissed_63 ?_
  refine xg_X11_256 C O.1.1 X (k := 51) rfl dX11_dismissed_66 ?_
  refine lv_iconst (v := (-1)) C.1.1 C.1.2.1 dX11_dismissed_69 (by decide) ?_
  refine lv_icmp_ne (tgt := 75) C.1.1 C.1.2.1 dX11_dismissed_70 (by decide) (fun h_z => ?_) (fun h_z => ?_)
  · rw [if_neg h_z] at hF
    exact bX11_dismissed_75 C O Tb K44 X (lv_sub hl [0, 1] rfl) hF
  · rw [if_pos h_z] at hF
    exact bX11_dismissed_73 C O Tb X (lv_sub hl [1] rfl) hF
noncomputable def fX11_dismissed_b44 (N : Nat) (r44 : Int32 → gS → Option (tR)) (x2 : Int32) (S : gS) : Option (tR) := if 60 < x2 then fX11_dismissed_b81 N S else fX11_dismissed_b50 N r44 x2 S
theorem bX11_dismissed_44 {N : Nat} {r44 : Int32 → gS → Option (tR)} {x2 : Int32} {S : gS} {H : Heap} {locs : List Loc} {ls : Array Slot} {o : tR} (C : gC p s m args meth c cX11_dismissed 3 RX11 ((some .int)) D (xtys cI cB cZ cQ) xord g Am) (O : tO l g cI cB cZ cQ Am aK aV) (Tb : ∀ x ∈ c.exceptionTable.toList, False) (K44 : ∀ (x2 : Int32) (S : gS) (H : Heap) (locs : List Loc) (ls : Array Slot), gX D (xcell g cI cB cZ cQ) xord g S s H locs → lv_has ls 3 [(0, .ref (g 0)), (2, .int x2)] → r44 x2 S = some o → W p l e (rmx 7 1) s m args below meth c H locs 1 6 (gEX below args s D (xtys cI cB cZ cQ) (xcell g cI cB cZ cQ) xord g 1 false o) (F0 m 44 ls [])) (X : gX D (xcell g cI cB cZ cQ) xord g S s H locs) (hl : lv_has ls 3 [(0, .ref (g 0)), (2, .int x2)]) (hF : fX11_dismissed_b44 N r44 x2 S = some o) : W p l e (rmx 7 1) s m args below meth c H locs 1 6 (gEX below args s D (xtys cI cB cZ cQ) (xcell g cI cB cZ cQ) xord g 1 false o) (F0 m 44 ls []) := by
  unfold fX11_dismissed_b44 at hF
  refine lv_iload_n C.1.1 C.1.2.1 dX11_dismissed_44 rfl (lv_at hl 1 rfl) ?_
  refine lv_bipush (v := 60) C.1.1 C.1.2.1 dX11_dismissed_45 (by decide) ?_
  refine lv_icmp_gt (tgt := 81) C.1.1 C.1.2.1 dX11_dismissed_47 (by decide) (fun h_z => ?_) (fun h_z => ?_)
  · rw [if_pos h_z] at hF
    exact bX11_dismissed_81 C O Tb X (lv_sub hl [] rfl) hF
  · rw [if_neg h_z] at hF
    exact bX11_dismissed_50 C O Tb K44 X (lv_sub hl [0, 1] rfl) hF
noncomputable def fX11_dismissed_h44 (N : Nat) : Nat → Int32 → gS → Option (tR)
  | 0, _, _ => none
  | n + 1, x2, S => fX11_dismissed_b44 N (fX11_dismissed_h44 N n) x2 S
theorem hX11_dismissed_44 {N : Nat} {o : tR} (C : gC p s m args meth c cX11_dismissed 3 RX11 ((some .int)) D (xtys cI cB cZ cQ) xord g Am) (O : tO l g cI cB cZ cQ Am aK aV) (Tb : ∀ x ∈ c.exceptionTable.toList, False) : ∀ (n : Nat) (x2 : Int32) (S : gS) (H : Heap) (locs : List Loc) (ls : Array Slot), gX D (xcell g cI cB cZ cQ) xord g S s H locs → lv_has ls 3 [(0, .ref (g 0)), (2, .int x2)] → fX11_dismissed_h44 N n x2 S = some o → W p l e (rmx 7 1) s m args below meth c H locs 1 6 (gEX below args s D (xtys cI cB cZ cQ) (xcell g cI cB cZ cQ) xord g 1 false o) (F0 m 44 ls []) := by
  intro n
  induction n with
  | zero =>
    intro x2 S H locs ls X hl hF
    exact absurd (show (none : Option (tR)) = some o from hF) (by simp)
  | succ n ih =>
    intro x2 S H locs ls X hl hF
    have hF : fX11_dismissed_b44 N (fX11_dismissed_h44 N n) x2 S = some o := hF
    exact bX11_dismissed_44 C O Tb ih X hl hF
noncomputable def fX11_dismissed_b23 (N : Nat) (x1 : Int32) (S : gS) : Option (tR) := lt (xtw S) fun T1 => (bnd (fX10_begin N T1 21 x1 S) fun q1 => (fX11_dismissed_h44 N N 1 q1.2))
theorem bX11_dismissed_23 {N : Nat} {x1 : Int32} {S : gS} {H : Heap} {locs : List Loc} {ls : Array Slot} {o : tR} (C : gC p s m args meth c cX11_dismissed 3 RX11 ((some .int)) D (xtys cI cB cZ cQ) xord g Am) (O : tO l g cI cB cZ cQ Am aK aV) (Tb : ∀ x ∈ c.exceptionTable.toList, False) (X : gX D (xcell g cI cB cZ cQ) xord g S s H locs) (hl : lv_has ls 3 [(0, .ref (g 0)), (1, .int x1)]) (hF : fX11_dismissed_b23 N x1 S = some o) : W p l e (rmx 7 1) s m args below meth c H locs 1 6 (gEX below args s D (xtys cI cB cZ cQ) (xcell g cI cB cZ cQ) xord g 1 false o) (F0 m 23 ls []) := by
  unfold fX11_dismissed_b23 at hF
  refine lv_aload_n C.1.1 C.1.2.1 dX11_dismissed_23 rfl (lv_at hl 0 rfl) ?_
  refine xg_X11_36 C O.1.1 X (k := 0) rfl (j := 51) rfl dX11_dismissed_24 ?_
  refine lv_aload_n C.1.1 C.1.2.1 dX11_dismissed_27 rfl (lv_at hl 0 rfl) ?_
  obtain ⟨T1, eT1, hF⟩ := lt_some hF
  have hk_T1 := xtw_k eT1
  refine xg_X11_57 C O.1.1 X (T := T1) eT1 (k := 0) rfl dX11_dismissed_28 ?_
  refine lv_aload_n C.1.1 C.1.2.1 dX11_dismissed_31 rfl (lv_at hl 0 rfl) ?_
  refine xg_X11_19 C O.1.1 X (k := 0) rfl (j := 20) rfl dX11_dismissed_32 ?_
  refine xg_X11_105 C O.1.1 X (k := 20) rfl (j := 21) rfl dX11_dismissed_35 ?_
  refine lv_iload_n C.1.1 C.1.2.1 dX11_dismissed_38 rfl (lv_at hl 1 rfl) ?_
  obtain ⟨q1, hq1, hF⟩ := bnd_some hF
  refine x_callV C X (k := 51) xv_X11_243 (rfl : xk 51 = 10) rfl rfl (by decide) (kX10_begin O.1.1 C.2.2.2.2.1 N T1 21 x1 (hk_T1 : xk T1 = 9) (rfl : xk 21 = 7) S q1 hq1) (Nat.le_of_ble_eq_true rfl) (Nat.le_of_ble_eq_true rfl) (Nat.le_of_ble_eq_true rfl) (Nat.le_of_ble_eq_true rfl) rfl hl.1 rfl (Nat.le_of_ble_eq_true rfl) dX11_dismissed_39 (fun H locs X => ?_)
  refine lv_iconst (v := 1) C.1.1 C.1.2.1 dX11_dismissed_42 (by decide) ?_
  refine lv_istore_n (lv' := [(2, .int 1), (0, .ref (g 0)), (1, .int x1)]) C.1.1 C.1.2.1 dX11_dismissed_43 rfl hl (by decide) rfl (fun ls hl => ?_)
  exact hX11_dismissed_44 C O Tb N _ _ _ _ _ X (lv_sub hl [1, 0] rfl) hF
noncomputable def fX11_dismissed_b21 (N : Nat) (S : gS) : Option (tR) := some (0, (-1), S)
theorem bX11_dismissed_21 {N : Nat} {S : gS} {H : Heap} {locs : List Loc} {ls : Array Slot} {o : tR} (C : gC p s m args meth c cX11_dismissed 3 RX11 ((some .int)) D (xtys cI cB cZ cQ) xord g Am) (O : tO l g cI cB cZ cQ Am aK aV) (Tb : ∀ x ∈ c.exceptionTable.toList, False) (X : gX D (xcell g cI cB cZ cQ) xord g S s H locs) (hl : lv_has ls 3 []) (hF : fX11_dismissed_b21 N S = some o) : W p l e (rmx 7 1) s m args below meth c H locs 1 6 (gEX below args s D (xtys cI cB cZ cQ) (xcell g cI cB cZ cQ) xord g 1 false o) (F0 m 21 ls []) := by
  unfold fX11_dismissed_b21 at hF
  refine lv_iconst (v := (-1)) C.1.1 C.1.2.1 dX11_dismissed_21 (by decide) ?_
  cases hF
  exact t_iret (x := (-1)) C X (by decide) (by decide) dX11_dismissed_22
noncomputable def fX11_dismissed_b0 (N : Nat) (x1 : Int32) (S : gS) : Option (tR) := bnx (fX11_needGuild N x1 S) fun q1 => (chk (inb x1 6) (if (q1.2.2 25 (Int32.toNatClampNeg x1)) = ((-1)) then fX11_dismissed_b21 N q1.2.2 else fX11_dismissed_b23 N x1 q1.2.2))
theorem bX11_dismissed_0 {N : Nat} {x1 : Int32} {S : gS} {H : Heap} {locs : List Loc} {ls : Array Slot} {o : tR} (C : gC p s m args meth c cX11_dismissed 3 RX11 ((some .int)) D (xtys cI cB cZ cQ) xord g Am) (O : tO l g cI cB cZ cQ Am aK aV) (Tb : ∀ x ∈ c.exceptionTable.toList, False) (X : gX D (xcell g cI cB cZ cQ) xord g S s H locs) (hl : lv_has ls 3 [(0, .ref (g 0)), (1, .int x1)]) (hF : fX11_dismissed_b0 N x1 S = some o) : W p l e (rmx 7 1) s m args below meth c H locs 0 0 (gEX below args s D (xtys cI cB cZ cQ) (xcell g cI cB cZ cQ) xord g 1 false o) (F0 m 0 ls []) := by
  unfold fX11_dismissed_b0 at hF
  refine lv_aload_n C.1.1 C.1.2.1 dX11_dismissed_0 rfl (lv_at hl 0 rfl) ?_
  refine lv_iload_n C.1.1 C.1.2.1 dX11_dismissed_1 rfl (lv_at hl 1 rfl) ?_
  rcases (bnx_some hF).symm with ⟨q1, hq1, zq1, eo⟩ | ⟨q1, hq1, zq1, hF⟩
  · subst eo
    exact t_thr (x_preT C X xv_X11_191 rfl (kX11_needGuild O C.2.2.2.2.1 N x1 S q1 hq1) (Nat.le_of_ble_eq_true rfl) (Nat.le_of_ble_eq_true rfl) (Nat.le_of_ble_eq_true rfl) (Nat.le_of_ble_eq_true rfl) rfl hl.1 rfl (Nat.le_of_ble_eq_true rfl) dX11_dismissed_2) zq1 C Tb X (by decide) (by decide)
  refine t_okv (x_preT C X xv_X11_191 rfl (kX11_needGuild O C.2.2.2.2.1 N x1 S q1 hq1) (Nat.le_of_ble_eq_true rfl) (Nat.le_of_ble_eq_true rfl) (Nat.le_of_ble_eq_true rfl) (Nat.le_of_ble_eq_true rfl) rfl hl.1 rfl (Nat.le_of_ble_eq_true rfl) dX11_dismissed_2) zq1 X (fun H locs X => ?_)
  refine W.widen (k := 1) (n := 6) (by decide) (by decide) ?_
  refine lv_aload_n C.1.1 C.1.2.1 dX11_dismissed_5 rfl (lv_at hl 0 rfl) ?_
  refine xg_X11_19 C O.1.1 X (k := 0) rfl (j := 20) rfl dX11_dismissed_6 ?_
  refine xg_X11_105 C O.1.1 X (k := 20) rfl (j := 21) rfl dX11_dismissed_9 ?_
  refine xg_X11_206 C O.1.1 X (k := 21) rfl (j := 25) rfl dX11_dismissed_12 ?_
  refine lv_iload_n C.1.1 C.1.2.1 dX11_dismissed_15 rfl (lv_at hl 1 rfl) ?_
  obtain ⟨h_1, hF⟩ := chk_some hF
  refine x_rI C X (k := 25) rfl (n := 6) rfl  (inb_vp h_1) rfl dX11_dismissed_16 ?_
  refine lv_iconst (v := (-1)) C.1.1 C.1.2.1 dX11_dismissed_17 (by decide) ?_
  refine lv_icmp_ne (tgt := 23) C.1.1 C.1.2.1 dX11_dismissed_18 (by decide) (fun h_z => ?_) (fun h_z => ?_)
  · rw [if_neg h_z] at hF
    exact bX11_dismissed_23 C O Tb X (lv_sub hl [0, 1] rfl) hF
  · rw [if_pos h_z] at hF
    exact bX11_dismissed_21 C O Tb X (lv_sub hl [] rfl) hF
noncomputable def fX11_dismissed (N : Nat) (x1 : Int32) (S : gS) : Option (tR) := fX11_dismissed_b0 N x1 S
theorem kX11_dismissed {l : Launch} {D : va_G} {g : Nat → Nat} {cI cB cZ cQ : ClassId} {Am : (Nat → Prop) → State → Heap → Prop} {aK aV : Nat → Nat} (O : tO l g cI cB cZ cQ Am aK aV) (P : gAm Am) (N : Nat) (x1 : Int32) (S : gS) (o : tR) (hF : fX11_dismissed N x1 S = some o) : gN l yX11_dismissed cX11_dismissed 3 ((some .int)) 7 1 D (xtys cI cB cZ cQ) (xcell g cI cB cZ cQ) xord g Am [.ref (g 0), .int x1] S false o :=
  gN_of P (by decide) (Nat.le_of_ble_eq_true rfl) (fun p e s m args below meth c ls C Tb X hl => bX11_dismissed_0 C O Tb X (lv_sub hl [0, 1] rfl) hF)
-- X11.most
noncomputable def fX11_most_b107 (N : Nat) (x3 : Int32) (S : gS) : Option (tR) := some (0, x3, S)
theorem bX11_most_107 {N : Nat} {x3 : Int32} {S : gS} {H : Heap} {locs : List Loc} {ls : Array Slot} {o : tR} (C : gC p s m args meth c cX11_most 7 RX11 ((some .int)) D (xtys cI cB cZ cQ) xord g Am) (O : tO l g cI cB cZ cQ Am aK aV) (Tb : ∀ x ∈ c.exceptionTable.toList, False) (X : gX D (xcell g cI cB cZ cQ) xord g S s H locs) (hl : lv_has ls 7 [(3, .int x3)]) (hF : fX11_most_b107 N x3 S = some o) : W p l e (rmx 7 2) s m args below meth c H locs 2 12 (gEX below args s D (xtys cI cB cZ cQ) (xcell g cI cB cZ cQ) xord g 2 false o) (F0 m 107 ls []) := by
  unfold fX11_most_b107 at hF
  refine lv_iload_n C.1.1 C.1.2.1 dX11_most_107 rfl (lv_at hl 0 rfl) ?_
  cases hF
  exact t_iret C X (by decide) (by decide) dX11_most_108
noncomputable def fX11_most_b101 (N : Nat) (r20 : Int32 → Int32 → Int32 → Int32 → Int32 → gS → Option (tR)) (x1 : Int32) (x2 : Int32) (x3 : Int32) (x4 : Int32) (x5 : Int32) (S : gS) : Option (tR) := r20 x1 x2 x3 x4 ((x5 + 1 : Int32)) S
theorem bX11_most_101 {N : Nat} {r20 : Int32 → Int32 → Int32 → Int32 → Int32 → gS → Option (tR)} {x1 : Int32} {x2 : Int32} {x3 : Int32} {x4 : Int32} {x5 : Int32} {S : gS} {H : Heap} {locs : List Loc} {ls : Array Slot} {o : tR} (C : gC p s m args meth c cX11_most 7 RX11 ((some .int)) D (xtys cI cB cZ cQ) xord g Am) (O : tO l g cI cB cZ cQ Am aK aV) (Tb : ∀ x ∈ c.exceptionTable.toList, False) (K20 : ∀ (x1 : Int32) (x2 : Int32) (x3 : Int32) (x4 : Int32) (x5 : Int32) (S : gS) (H : Heap) (locs : List Loc) (ls : Array Slot), gX D (xcell g cI cB cZ cQ) xord g S s H locs → lv_has ls 7 [(0, .ref (g 0)), (1, .int x1), (2, .int x2), (3, .int x3), (4, .int x4), (5, .int x5)] → r20 x1 x2 x3 x4 x5 S = some o → W p l e (rmx 7 2) s m args below meth c H locs 2 12 (gEX below args s D (xtys cI cB cZ cQ) (xcell g cI cB cZ cQ) xord g 2 false o) (F0 m 20 ls [])) (X : gX D (xcell g cI cB cZ cQ) xord g S s H locs) (hl : lv_has ls 7 [(0, .ref (g 0)), (1, .int x1), (2, .int x2), (3, .int x3), (4, .int x4), (5, .int x5)]) (hF : fX11_most_b101 N r20 x1 x2 x3 x4 x5 S = some o) : W p l e (rmx 7 2) s m args below meth c H locs 2 12 (gEX below args s D (xtys cI cB cZ cQ) (xcell g cI cB cZ cQ) xord g 2 false o) (F0 m 101 ls []) := by
  unfold fX11_most_b101 at hF
  refine lv_iinc (v := (x5 + 1 : Int32)) (lv' := [(5, .int ((x5 + 1 : Int32))), (0, .ref (g 0)), (1, .int x1), (2, .int x2), (3, .int x3), (4, .int x4)]) C.1.1 C.1.2.1 dX11_most_101 hl (k := 5) rfl rfl (by decide) rfl (fun ls hl => ?_)
  refine lv_goto (tgt := 20) C.1.1 C.1.2.1 dX11_most_104 (by decide) ?_
  exact K20 _ _ _ _ _ _ _ _ _ X (lv_sub hl [1, 2, 3, 4, 5, 0] rfl) hF
noncomputable def fX11_most_b94 (N : Nat) (r20 : Int32 → Int32 → Int32 → Int32 → Int32 → gS → Option (tR)) (x1 : Int32) (x2 : Int32) (x5 : Int32) (x6 : Int32) (S : gS) : Option (tR) := fX11_most_b101 N r20 x1 x2 x5 x6 x5 S
theorem bX11_most_94 {N : Nat} {r20 : Int32 → Int32 → Int32 → Int32 → Int32 → gS → Option (tR)} {x1 : Int32} {x2 : Int32} {x5 : Int32} {x6 : Int32} {S : gS} {H : Heap} {locs : List Loc} {ls : Array Slot} {o : tR} (C : gC p s m args meth c cX11_most 7 RX11 ((some .int)) D (xtys cI cB cZ cQ) xord g Am) (O : tO l g cI cB cZ cQ Am aK aV) (Tb : ∀ x ∈ c.exceptionTable.toList, False) (K20 : ∀ (x1 : Int32) (x2 : Int32) (x3 : Int32) (x4 : Int32) (x5 : Int32) (S : gS) (H : Heap) (locs : List Loc) (ls : Array Slot), gX D (xcell g cI cB cZ cQ) xord g S s H locs → lv_has ls 7 [(0, .ref (g 0)), (1, .int x1), (2, .int x2), (3, .int x3), (4, .int x4), (5, .int x5)] → r20 x1 x2 x3 x4 x5 S = some o → W p l e (rmx 7 2) s m args below meth c H locs 2 12 (gEX below args s D (xtys cI cB cZ cQ) (xcell g cI cB cZ cQ) xord g 2 false o) (F0 m 20 ls [])) (X : gX D (xcell g cI cB cZ cQ) xord g S s H locs) (hl : lv_has ls 7 [(0, .ref (g 0)), (1, .int x1), (2, .int x2), (5, .int x5), (6, .int x6)]) (hF : fX11_most_b94 N r20 x1 x2 x5 x6 S = some o) : W p l e (rmx 7 2) s m args below meth c H locs 2 12 (gEX below args s D (xtys cI cB cZ cQ) (xcell g cI cB cZ cQ) xord g 2 false o) (F0 m 94 ls []) := by
  unfold fX11_most_b94 at hF
  refine lv_iload C.1.1 C.1.2.1 dX11_most_94 (lv_at hl 3 rfl) ?_
  refine lv_istore_n (lv' := [(3, .int x5), (0, .ref (g 0)), (1, .int x1), (2, .int x2), (5, .int x5), (6, .int x6)]) C.1.1 C.1.2.1 dX11_most_96 rfl hl (by decide) rfl (fun ls hl => ?_)
  refine lv_iload C.1.1 C.1.2.1 dX11_most_97 (lv_at hl 5 rfl) ?_
  refine lv_istore (lv' := [(4, .int x6), (3, .int x5), (0, .ref (g 0)), (1, .int x1), (2, .int x2), (5, .int x5), (6, .int x6)]) C.1.1 C.1.2.1 dX11_most_99 hl (by decide) rfl (fun ls hl => ?_)
  exact bX11_most_101 C O Tb K20 X (lv_sub hl [2, 3, 4, 1, 0, 5] rfl) hF
noncomputable def fX11_most_b85 (N : Nat) (r20 : Int32 → Int32 → Int32 → Int32 → Int32 → gS → Option (tR)) (x1 : Int32) (x2 : Int32) (x3 : Int32) (x4 : Int32) (x5 : Int32) (t0 : Int32) (S : gS) : Option (tR) := if t0 ≤ x4 then fX11_most_b101 N r20 x1 x2 x3 x4 x5 S else fX11_most_b94 N r20 x1 x2 x5 t0 S
theorem bX11_most_85 {N : Nat} {r20 : Int32 → Int32 → Int32 → Int32 → Int32 → gS → Option (tR)} {x1 : Int32} {x2 : Int32} {x3 : Int32} {x4 : Int32} {x5 : Int32} {t0 : Int32} {S : gS} {H : Heap} {locs : List Loc} {ls : Array Slot} {o : tR} (C : gC p s m args meth c cX11_most 7 RX11 ((some .int)) D (xtys cI cB cZ cQ) xord g Am) (O : tO l g cI cB cZ cQ Am aK aV) (Tb : ∀ x ∈ c.exceptionTable.toList, False) (K20 : ∀ (x1 : Int32) (x2 : Int32) (x3 : Int32) (x4 : Int32) (x5 : Int32) (S : gS) (H : Heap) (locs : List Loc) (ls : Array Slot), gX D (xcell g cI cB cZ cQ) xord g S s H locs → lv_has ls 7 [(0, .ref (g 0)), (1, .int x1), (2, .int x2), (3, .int x3), (4, .int x4), (5, .int x5)] → r20 x1 x2 x3 x4 x5 S = some o → W p l e (rmx 7 2) s m args below meth c H locs 2 12 (gEX below args s D (xtys cI cB cZ cQ) (xcell g cI cB cZ cQ) xord g 2 false o) (F0 m 20 ls [])) (X : gX D (xcell g cI cB cZ cQ) xord g S s H locs) (hl : lv_has ls 7 [(0, .ref (g 0)), (1, .int x1), (2, .int x2), (3, .int x3), (4, .int x4), (5, .int x5)]) (hF : fX11_most_b85 N r20 x1 x2 x3 x4 x5 t0 S = some o) : W p l e (rmx 7 2) s m args below meth c H locs 2 12 (gEX below args s D (xtys cI cB cZ cQ) (xcell g cI cB cZ cQ) xord g 2 false o) (F0 m 85 ls [.int t0]) := by
  unfold fX11_most_b85 at hF
  refine lv_istore (lv' := [(6, .int t0), (0, .ref (g 0)), (1, .int x1), (2, .int x2), (3, .int x3), (4, .int x4), (5, .int x5)]) C.1.1 C.1.2.1 dX11_most_85 hl (by decide) rfl (fun ls hl => ?_)
  refine lv_iload C.1.1 C.1.2.1 dX11_most_87 (lv_at hl 0 rfl) ?_
  refine lv_iload C.1.1 C.1.2.1 dX11_most_89 (lv_at hl 5 rfl) ?_
  refine lv_icmp_le (tgt := 101) C.1.1 C.1.2.1 dX11_most_91 (by decide) (fun h_z => ?_) (fun h_z => ?_)
  · rw [if_pos h_z] at hF
    exact bX11_most_101 C O Tb K20 X (lv_sub hl [1, 2, 3, 4, 5, 6] rfl) hF
  · rw [if_neg h_z] at hF
    exact bX11_most_94 C O Tb K20 X (lv_sub hl [1, 2, 3, 6, 0] rfl) hF
noncomputable def fX11_most_b78 (N : Nat) (r20 : Int32 → Int32 → Int32 → Int32 → Int32 → gS → Option (tR)) (x1 : Int32) (x2 : Int32) (x3 : Int32) (x4 : Int32) (x5 : Int32) (S : gS) : Option (tR) := fX11_most_b85 N r20 x1 x2 x3 x4 x5 (S 51 1) S
theorem bX11_most_78 {N : Nat} {r20 : Int32 → Int32 → Int32 → Int32 → Int32 → gS → Option (tR)} {x1 : Int32} {x2 : Int32} {x3 : Int32} {x4 : Int32} {x5 : Int32} {S : gS} {H : Heap} {locs : List Loc} {ls : Array Slot} {o : tR} (C : gC p s m args meth c cX11_most 7 RX11 ((some .int)) D (xtys cI cB cZ cQ) xord g Am) (O : tO l g cI cB cZ cQ Am aK aV) (Tb : ∀ x ∈ c.exceptionTable.toList, False) (K20 : ∀ (x1 : Int32) (x2 : Int32) (x3 : Int32) (x4 : Int32) (x5 : Int32) (S : gS) (H : Heap) (locs : List Loc) (ls : Array Slot), gX D (xcell g cI cB cZ cQ) xord g S s H locs → lv_has ls 7 [(0, .ref (g 0)), (1, .int x1), (2, .int x2), (3, .int x3), (4, .int x4), (5, .int x5)] → r20 x1 x2 x3 x4 x5 S = some o → W p l e (rmx 7 2) s m args below meth c H locs 2 12 (gEX below args s D (xtys cI cB cZ cQ) (xcell g cI cB cZ cQ) xord g 2 false o) (F0 m 20 ls [])) (X : gX D (xcell g cI cB cZ cQ) xord g S s H locs) (hl : lv_has ls 7 [(0, .ref (g 0)), (1, .int x1), (2, .int x2), (3, .int x3), (4, .int x4), (5, .int x5)]) (hF : fX11_most_b78 N r20 x1 x2 x3 x4 x5 S = some o) : W p l e (rmx 7 2) s m args below meth c H locs 2 12 (gEX below args s D (xtys cI cB cZ cQ) (xcell g cI cB cZ cQ) xord g 2 false o) (F0 m 78 ls []) := by
  unfold fX11_most_b78 at hF
  refine lv_aload_n C.1.1 C.1.2.1 dX11_most_78 rfl (lv_at hl 0 rfl) ?_
  refine xg_X11_36 C O.1.1 X (k := 0) rfl (j := 51) rfl dX11_most_79 ?_
  refine xg_X11_250 C O.1.1 X (k := 51) rfl dX11_most_82 ?_
  exact bX11_most_85 C O Tb K20 X (lv_sub hl [0, 1, 2, 3, 4, 5] rfl) hF
noncomputable def fX11_most_b68 (N : Nat) (r20 : Int32 → Int32 → Int32 → Int32 → Int32 → gS → Option (tR)) (x1 : Int32) (x2 : Int32) (x3 : Int32) (x4 : Int32) (x5 : Int32) (S : gS) : Option (tR) := fX11_most_b85 N r20 x1 x2 x3 x4 x5 (S 51 2) S
theorem bX11_most_68 {N : Nat} {r20 : Int32 → Int32 → Int32 → Int32 → Int32 → gS → Option (tR)} {x1 : Int32} {x2 : Int32} {x3 : Int32} {x4 : Int32} {x5 : Int32} {S : gS} {H : Heap} {locs : List Loc} {ls : Array Slot} {o : tR} (C : gC p s m args meth c cX11_most 7 RX11 ((some .int)) D (xtys cI cB cZ cQ) xord g Am) (O : tO l g cI cB cZ cQ Am aK aV) (Tb : ∀ x ∈ c.exceptionTable.toList, False) (K20 : ∀ (x1 : Int32) (x2 : Int32) (x3 : Int32) (x4 : Int32) (x5 : Int32) (S : gS) (H : Heap) (locs : List Loc) (ls : Array Slot), gX D (xcell g cI cB cZ cQ) xord g S s H locs → lv_has ls 7 [(0, .ref (g 0)), (1, .int x1), (2, .int x2), (3, .int x3), (4, .int x4), (5, .int x5)] → r20 x1 x2 x3 x4 x5 S = some o → W p l e (rmx 7 2) s m args below meth c H locs 2 12 (gEX below args s D (xtys cI cB cZ cQ) (xcell g cI cB cZ cQ) xord g 2 false o) (F0 m 20 ls [])) (X : gX D (xcell g cI cB cZ cQ) xord g S s H locs) (hl : lv_has ls 7 [(0, .ref (g 0)), (1, .int x1), (2, .int x2), (3, .int x3), (4, .int x4), (5, .int x5)]) (hF : fX11_most_b68 N r20 x1 x2 x3 x4 x5 S = some o) : W p l e (rmx 7 2) s m args below meth c H locs 2 12 (gEX below args s D (xtys cI cB cZ cQ) (xcell g cI cB cZ cQ) xord g 2 false o) (F0 m 68 ls []) := by
  unfold fX11_most_b68 at hF
  refine lv_aload_n C.1.1 C.1.2.1 dX11_most_68 rfl (lv_at hl 0 rfl) ?_
  refine xg_X11_36 C O.1.1 X (k := 0) rfl (j := 51) rfl dX11_most_69 ?_
  refine xg_X11_252 C O.1.1 X (k := 51) rfl dX11_most_72 ?_
  refine lv_goto (tgt := 85) C.1.1 C.1.2.1 dX11_most_75 (by decide) ?_
  exact bX11_most_85 C O Tb K20 X (lv_sub hl [0, 1, 2, 3, 4, 5] rfl) hF
noncomputable def fX11_most_b32 (N : Nat) (r20 : Int32 → Int32 → Int32 → Int32 → Int32 → gS → Option (tR)) (x1 : Int32) (x2 : Int32) (x3 : Int32) (x4 : Int32) (x5 : Int32) (S : gS) : Option (tR) := lt (xtw S) fun T1 => (bnd (fX10_begin N T1 21 x5 S) fun q1 => (lt (xtw q1.2) fun T2 => (bnd (fX10_passHours N T2 x1 q1.2) fun q2 => (if x2 = 0 then fX11_most_b68 N r20 x1 x2 x3 x4 x5 q2.2 else fX11_most_b78 N r20 x1 x2 x3 x4 x5 q2.2))))
theorem bX11_most_32 {N : Nat} {r20 : Int32 → Int32 → Int32 → Int32 → Int32 → gS → Option (tR)} {x1 : Int32} {x2 : Int32} {x3 : Int32} {x4 : Int32} {x5 : Int32} {S : gS} {H : Heap} {locs : List Loc} {ls : Array Slot} {o : tR} (C : gC p s m args meth c cX11_most 7 RX11 ((some .int)) D (xtys cI cB cZ cQ) xord g Am) (O : tO l g cI cB cZ cQ Am aK aV) (Tb : ∀ x ∈ c.exceptionTable.toList, False) (K20 : ∀ (x1 : Int32) (x2 : Int32) (x3 : Int32) (x4 : Int32) (x5 : Int32) (S : gS) (H : Heap) (locs : List Loc) (ls : Array Slot), gX D (xcell g cI cB cZ cQ) xord g S s H locs → lv_has ls 7 [(0, .ref (g 0)), (1, .int x1), (2, .int x2), (3, .int x3), (4, .int x4), (5, .int x5)] → r20 x1 x2 x3 x4 x5 S = some o → W p l e (rmx 7 2) s m args below meth c H locs 2 12 (gEX below args s D (xtys cI cB cZ cQ) (xcell g cI cB cZ cQ) xord g 2 false o) (F0 m 20 ls [])) (X : gX D (xcell g cI cB cZ cQ) xord g S s H locs) (hl : lv_has ls 7 [(0, .ref (g 0)), (1, .int x1), (2, .int x2), (3, .int x3), (4, .int x4), (5, .int x5)]) (hF : fX11_most_b32 N r20 x1 x2 x3 x4 x5 S = some o) : W p l e (rmx 7 2) s m args below meth c H locs 2 12 (gEX below args s D (xtys cI cB cZ cQ) (xcell g cI cB cZ cQ) xord g 2 false o) (F0 m 32 ls []) := by
  unfold fX11_most_b32 at hF
  refine lv_aload_n C.1.1 C.1.2.1 dX11_most_32 rfl (lv_at hl 0 rfl) ?_
  refine xg_X11_36 C O.1.1 X (k := 0) rfl (j := 51) rfl dX11_most_33 ?_
  refine lv_aload_n C.1.1 C.1.2.1 dX11_most_36 rfl (lv_at hl 0 rfl) ?_
  obtain ⟨T1, eT1, hF⟩ := lt_some hF
  have hk_T1 := xtw_k eT1
  refine xg_X11_57 C O.1.1 X (T := T1) eT1 (k := 0) rfl dX11_most_37 ?_
  refine lv_aload_n C.1.1 C.1.2.1 dX11_most_40 rfl (lv_at hl 0 rfl) ?_
  refine xg_X11_19 C O.1.1 X (k := 0) rfl (j := 20) rfl dX11_most_41 ?_
  refine xg_X11_105 C O.1.1 X (k := 20) rfl (j := 21) rfl dX11_most_44 ?_
  refine lv_iload C.1.1 C.1.2.1 dX11_most_47 (lv_at hl 5 rfl) ?_
  obtain ⟨q1, hq1, hF⟩ := bnd_some hF
  refine x_callV C X (k := 51) xv_X11_243 (rfl : xk 51 = 10) rfl rfl (by decide) (kX10_begin O.1.1 C.2.2.2.2.1 N T1 21 x5 (hk_T1 : xk T1 = 9) (rfl : xk 21 = 7) S q1 hq1) (Nat.le_of_ble_eq_true rfl) (Nat.le_of_ble_eq_true rfl) (Nat.le_of_ble_eq_true rfl) (Nat.le_of_ble_eq_true rfl) rfl hl.1 rfl (Nat.le_of_ble_eq_true rfl) dX11_most_49 (fun H locs X => ?_)
  refine lv_aload_n C.1.1 C.1.2.1 dX11_most_52 rfl (lv_at hl 0 rfl) ?_
  refine xg_X11_36 C O.1.1 X (k := 0) rfl (j := 51) rfl dX11_most_53 ?_
  refine lv_aload_n C.1.1 C.1.2.1 dX11_most_56 rfl (lv_at hl 0 rfl) ?_
  obtain ⟨T2, eT2, hF⟩ := lt_some hF
  have hk_T2 := xtw_k eT2
  refine xg_X11_57 C O.1.1 X (T := T2) eT2 (k := 0) rfl dX11_most_57 ?_
  refine lv_iload_n C.1.1 C.1.2.1 dX11_most_60 rfl (lv_at hl 1 rfl) ?_
  obtain ⟨q2, hq2, hF⟩ := bnd_some hF
  refine x_callV C X (k := 51) xv_X11_246 (rfl : xk 51 = 10) rfl rfl (by decide) (kX10_passHours O.1.1 C.2.2.2.2.1 N T2 x1 (hk_T2 : xk T2 = 9) q1.2 q2 hq2) (Nat.le_of_ble_eq_true rfl) (Nat.le_of_ble_eq_true rfl) (Nat.le_of_ble_eq_true rfl) (Nat.le_of_ble_eq_true rfl) rfl hl.1 rfl (Nat.le_of_ble_eq_true rfl) dX11_most_61 (fun H locs X => ?_)
  refine lv_iload_n C.1.1 C.1.2.1 dX11_most_64 rfl (lv_at hl 2 rfl) ?_
  refine lv_if_ne (tgt := 78) C.1.1 C.1.2.1 dX11_most_65 (by decide) (fun h_z => ?_) (fun h_z => ?_)
  · rw [if_neg h_z] at hF
    exact bX11_most_78 C O Tb K20 X (lv_sub hl [0, 1, 2, 3, 4, 5] rfl) hF
  · rw [if_pos h_z] at hF
    exact bX11_most_68 C O Tb K20 X (lv_sub hl [0, 1, 2, 3, 4, 5] rfl) hF
noncomputable def fX11_most_b20 (N : Nat) (r20 : Int32 → Int32 → Int32 → Int32 → Int32 → gS → Option (tR)) (x1 : Int32) (x2 : Int32) (x3 : Int32) (x4 : Int32) (x5 : Int32) (S : gS) : Option (tR) := lt (xtw S) fun T1 => (if (S T1 5) ≤ x5 then fX11_most_b107 N x3 S else fX11_most_b32 N r20 x1 x2 x3 x4 x5 S)
theorem bX11_most_20 {N : Nat} {r20 : Int32 → Int32 → Int32 → Int32 → Int32 → gS → Option (tR)} {x1 : Int32} {x2 : Int32} {x3 : Int32} {x4 : Int32} {x5 : Int32} {S : gS} {H : Heap} {locs : List Loc} {ls : Array Slot} {o : tR} (C : gC p s m args meth c cX11_most 7 RX11 ((some .int)) D (xtys cI cB cZ cQ) xord g Am) (O : tO l g cI cB cZ cQ Am aK aV) (Tb : ∀ x ∈ c.exceptionTable.toList, False) (K20 : ∀ (x1 : Int32) (x2 : Int32) (x3 : Int32) (x4 : Int32) (x5 : Int32) (S : gS) (H : Heap) (locs : List Loc) (ls : Array Slot), gX D (xcell g cI cB cZ cQ) xord g S s H locs → lv_has ls 7 [(0, .ref (g 0)), (1, .int x1), (2, .int x2), (3, .int x3), (4, .int x4), (5, .int x5)] → r20 x1 x2 x3 x4 x5 S = some o → W p l e (rmx 7 2) s m args below meth c H locs 2 12 (gEX below args s D (xtys cI cB cZ cQ) (xcell g cI cB cZ cQ) xord g 2 false o) (F0 m 20 ls [])) (X : gX D (xcell g cI cB cZ cQ) xord g S s H locs) (hl : lv_has ls 7 [(0, .ref (g 0)), (1, .int x1), (2, .int x2), (3, .int x3), (4, .int x4), (5, .int x5)]) (hF : fX11_most_b20 N r20 x1 x2 x3 x4 x5 S = some o) : W p l e (rmx 7 2) s m args below meth c H locs 2 12 (gEX below args s D (xtys cI cB cZ cQ) (xcell g cI cB cZ cQ) xord g 2 false o) (F0 m 20 ls []) := by
  unfold fX11_most_b20 at hF
  refine lv_iload C.1.1 C.1.2.1 dX11_most_20 (lv_at hl 5 rfl) ?_
  refine lv_aload_n C.1.1 C.1.2.1 dX11_most_22 rfl (lv_at hl 0 rfl) ?_
  obtain ⟨T1, eT1, hF⟩ := lt_some hF
  have hk_T1 := xtw_k eT1
  refine xg_X11_57 C O.1.1 X (T := T1) eT1 (k := 0) rfl dX11_most_23 ?_
  refine xg_X11_111 C O.1.1 X (k := T1) hk_T1 dX11_most_26 ?_
  refine lv_icmp_ge (tgt := 107) C.1.1 C.1.2.1 dX11_most_29 (by decide) (fun h_z => ?_) (fun h_z => ?_)
  · rw [if_pos h_z] at hF
    exact bX11_most_107 C O Tb X (lv_sub hl [3] rfl) hF
  · rw [if_neg h_z] at hF
    exact bX11_most_32 C O Tb K20 X (lv_sub hl [0, 1, 2, 3, 4, 5] rfl) hF
noncomputable def fX11_most_h20 (N : Nat) : Nat → Int32 → Int32 → Int32 → Int32 → Int32 → gS → Option (tR)
  | 0, _, _, _, _, _, _ => none
  | n + 1, x1, x2, x3, x4, x5, S => fX11_most_b20 N (fX11_most_h20 N n) x1 x2 x3 x4 x5 S
theorem hX11_most_20 {N : Nat} {o : tR} (C : gC p s m args meth c cX11_most 7 RX11 ((some .int)) D (xtys cI cB cZ cQ) xord g Am) (O : tO l g cI cB cZ cQ Am aK aV) (Tb : ∀ x ∈ c.exceptionTable.toList, False) : ∀ (n : Nat) (x1 : Int32) (x2 : Int32) (x3 : Int32) (x4 : Int32) (x5 : Int32) (S : gS) (H : Heap) (locs : List Loc) (ls : Array Slot), gX D (xcell g cI cB cZ cQ) xord g S s H locs → lv_has ls 7 [(0, .ref (g 0)), (1, .int x1), (2, .int x2), (3, .int x3), (4, .int x4), (5, .int x5)] → fX11_most_h20 N n x1 x2 x3 x4 x5 S = some o → W p l e (rmx 7 2) s m args below meth c H locs 2 12 (gEX below args s D (xtys cI cB cZ cQ) (xcell g cI cB cZ cQ) xord g 2 false o) (F0 m 20 ls []) := by
  intro n
  induction n with
  | zero =>
    intro x1 x2 x3 x4 x5 S H locs ls X hl hF
    exact absurd (show (none : Option (tR)) = some o from hF) (by simp)
  | succ n ih =>
    intro x1 x2 x3 x4 x5 S H locs ls X hl hF
    have hF : fX11_most_b20 N (fX11_most_h20 N n) x1 x2 x3 x4 x5 S = some o := hF
    exact bX11_most_20 C O Tb ih X hl hF
noncomputable def fX11_most_b0 (N : Nat) (x1 : Int32) (x2 : Int32) (S : gS) : Option (tR) := bnx (fX11_needWhat N x2 1 S) fun q1 => (bnx (fX11_needWithin N x1 0 60 q1.2.2) fun q2 => (fX11_most_h20 N N x1 x2 ((-1)) ((-1)) 0 q2.2.2))
theorem bX11_most_0 {N : Nat} {x1 : Int32} {x2 : Int32} {S : gS} {H : Heap} {locs : List Loc} {ls : Array Slot} {o : tR} (C : gC p s m args meth c cX11_most 7 RX11 ((some .int)) D (xtys cI cB cZ cQ) xord g Am) (O : tO l g cI cB cZ cQ Am aK aV) (Tb : ∀ x ∈ c.exceptionTable.toList, False) (X : gX D (xcell g cI cB cZ cQ) xord g S s H locs) (hl : lv_has ls 7 [(0, .ref (g 0)), (1, .int x1), (2, .int x2)]) (hF : fX11_most_b0 N x1 x2 S = some o) : W p l e (rmx 7 2) s m args below meth c H locs 0 0 (gEX below args s D (xtys cI cB cZ cQ) (xcell g cI cB cZ cQ) xord g 2 false o) (F0 m 0 ls []) := by
  unfold fX11_most_b0 at hF
  refine lv_iload_n C.1.1 C.1.2.1 dX11_most_0 rfl (lv_at hl 2 rfl) ?_
  refine lv_iconst (v := 1) C.1.1 C.1.2.1 dX11_most_1 (by decide) ?_
  rcases (bnx_some hF).symm with ⟨q1, hq1, zq1, eo⟩ | ⟨q1, hq1, zq1, hF⟩
  · subst eo
    exact t_thr (t_preS C X xv_X11_236 (kX11_needWhat O C.2.2.2.2.1 N x2 1 S q1 hq1) (Nat.le_of_ble_eq_true rfl) (Nat.le_of_ble_eq_true rfl) (Nat.le_of_ble_eq_true rfl) (Nat.le_of_ble_eq_true rfl) rfl hl.1 rfl (Nat.le_of_ble_eq_true rfl) dX11_most_2) zq1 C Tb X (by decide) (by decide)
  refine t_okv (t_preS C X xv_X11_236 (kX11_needWhat O C.2.2.2.2.1 N x2 1 S q1 hq1) (Nat.le_of_ble_eq_true rfl) (Nat.le_of_ble_eq_true rfl) (Nat.le_of_ble_eq_true rfl) (Nat.le_of_ble_eq_true rfl) rfl hl.1 rfl (Nat.le_of_ble_eq_true rfl) dX11_most_2) zq1 X (fun H locs X => ?_)
  refine W.widen (k := 1) (n := 6) (by decide) (by decide) ?_
  refine lv_iload_n C.1.1 C.1.2.1 dX11_most_5 rfl (lv_at hl 1 rfl) ?_
  refine lv_iconst (v := 0) C.1.1 C.1.2.1 dX11_most_6 (by decide) ?_
  refine lv_bipush (v := 60) C.1.1 C.1.2.1 dX11_most_7 (by decide) ?_
  rcases (bnx_some hF).symm with ⟨q2, hq2, zq2, eo⟩ | ⟨q2, hq2, zq2, hF⟩
  · subst eo
    exact t_thr (t_preS C X xv_X11_239 (kX11_needWithin O C.2.2.2.2.1 N x1 0 60 q1.2.2 q2 hq2) (Nat.le_of_ble_eq_true rfl) (Nat.le_of_ble_eq_true rfl) (Nat.le_of_ble_eq_true rfl) (Nat.le_of_ble_eq_true rfl) rfl hl.1 rfl (Nat.le_of_ble_eq_true rfl) dX11_most_9) zq2 C Tb X (by decide) (by decide)
  refine t_okv (t_preS C X xv_X11_239 (kX11_needWithin O C.2.2.2.2.1 N x1 0 60 q1.2.2 q2 hq2) (Nat.le_of_ble_eq_true rfl) (Nat.le_of_ble_eq_true rfl) (Nat.le_of_ble_eq_true rfl) (Nat.le_of_ble_eq_true rfl) rfl hl.1 rfl (Nat.le_of_ble_eq_true rfl) dX11_most_9) zq2 X (fun H locs X => ?_)
  refine W.widen (k := 2) (n := 12) (by decide) (by decide) ?_
  refine lv_iconst (v := (-1)) C.1.1 C.1.2.1 dX11_most_12 (by decide) ?_
  refine lv_istore_n (lv' := [(3, .int ((-1))), (0, .ref (g 0)), (1, .int x1), (2, .int x2)]) C.1.1 C.1.2.1 dX11_most_13 rfl hl (by decide) rfl (fun ls hl => ?_)
  refine lv_iconst (v := (-1)) C.1.1 C.1.2.1 dX11_most_14 (by decide) ?_
  refine lv_istore (lv' := [(4, .int ((-1))), (3, .int ((-1))), (0, .ref (g 0)), (1, .int x1), (2, .int x2)]) C.1.1 C.1.2.1 dX11_most_15 hl (by decide) rfl (fun ls hl => ?_)
  refine lv_iconst (v := 0) C.1.1 C.1.2.1 dX11_most_17 (by decide) ?_
  refine lv_istore (lv' := [(5, .int 0), (4, .int ((-1))), (3, .int ((-1))), (0, .ref (g 0)), (1, .int x1), (2, .int x2)]) C.1.1 C.1.2.1 dX11_most_18 hl (by decide) rfl (fun ls hl => ?_)
  exact hX11_most_20 C O Tb N _ _ _ _ _ _ _ _ _ X (lv_sub hl [3, 4, 5, 2, 1, 0] rfl) hF
noncomputable def fX11_most (N : Nat) (x1 : Int32) (x2 : Int32) (S : gS) : Option (tR) := fX11_most_b0 N x1 x2 S
theorem kX11_most {l : Launch} {D : va_G} {g : Nat → Nat} {cI cB cZ cQ : ClassId} {Am : (Nat → Prop) → State → Heap → Prop} {aK aV : Nat → Nat} (O : tO l g cI cB cZ cQ Am aK aV) (P : gAm Am) (N : Nat) (x1 : Int32) (x2 : Int32) (S : gS) (o : tR) (hF : fX11_most N x1 x2 S = some o) : gN l yX11_most cX11_most 7 ((some .int)) 7 2 D (xtys cI cB cZ cQ) (xcell g cI cB cZ cQ) xord g Am [.ref (g 0), .int x1, .int x2] S false o :=
  gN_of P (by decide) (Nat.le_of_ble_eq_true rfl) (fun p e s m args below meth c ls C Tb X hl => bX11_most_0 C O Tb X (lv_sub hl [0, 1, 2] rfl) hF)
-- X11.hush
noncomputable def fX11_hush_b49 (N : Nat) (x2 : Int32) (S : gS) : Option (tR) := some (0, x2, S)
theorem bX11_hush_49 {N : Nat} {x2 : Int32} {S : gS} {H : Heap} {locs : List Loc} {ls : Array Slot} {o : tR} (C : gC p s m args meth c cX11_hush 5 RX11 ((some .int)) D (xtys cI cB cZ cQ) xord g Am) (O : tO l g cI cB cZ cQ Am aK aV) (Tb : ∀ x ∈ c.exceptionTable.toList, False) (X : gX D (xcell g cI cB cZ cQ) xord g S s H locs) (hl : lv_has ls 5 [(2, .int x2)]) (hF : fX11_hush_b49 N x2 S = some o) : W p l e (rmx 7 1) s m args below meth c H locs 1 6 (gEX below args s D (xtys cI cB cZ cQ) (xcell g cI cB cZ cQ) xord g 1 false o) (F0 m 49 ls []) := by
  unfold fX11_hush_b49 at hF
  refine lv_iload_n C.1.1 C.1.2.1 dX11_hush_49 rfl (lv_at hl 0 rfl) ?_
  cases hF
  exact t_iret C X (by decide) (by decide) dX11_hush_50
noncomputable def fX11_hush_b36 (N : Nat) (r14 : Int32 → Int32 → Int32 → Int32 → gS → Option (tR)) (x1 : Int32) (x2 : Int32) (x4 : Int32) (t0 : Int32) (S : gS) : Option (tR) := r14 x1 (if x2 < t0 then t0 else x2) t0 ((x4 + 1 : Int32)) S
theorem bX11_hush_36 {N : Nat} {r14 : Int32 → Int32 → Int32 → Int32 → gS → Option (tR)} {x1 : Int32} {x2 : Int32} {x4 : Int32} {t0 : Int32} {S : gS} {H : Heap} {locs : List Loc} {ls : Array Slot} {o : tR} (C : gC p s m args meth c cX11_hush 5 RX11 ((some .int)) D (xtys cI cB cZ cQ) xord g Am) (O : tO l g cI cB cZ cQ Am aK aV) (Tb : ∀ x ∈ c.exceptionTable.toList, False) (K14 : ∀ (x1 : Int32) (x2 : Int32) (x3 : Int32) (x4 : Int32) (S : gS) (H : Heap) (locs : List Loc) (ls : Array Slot), gX D (xcell g cI cB cZ cQ) xord g S s H locs → lv_has ls 5 [(0, .ref (g 0)), (1, .int x1), (2, .int x2), (3, .int x3), (4, .int x4)] → r14 x1 x2 x3 x4 S = some o → W p l e (rmx 7 1) s m args below meth c H locs 1 6 (gEX below args s D (xtys cI cB cZ cQ) (xcell g cI cB cZ cQ) xord g 1 false o) (F0 m 14 ls [])) (X : gX D (xcell g cI cB cZ cQ) xord g S s H locs) (hl : lv_has ls 5 [(0, .ref (g 0)), (1, .int x1), (2, .int x2), (4, .int x4)]) (hF : fX11_hush_b36 N r14 x1 x2 x4 t0 S = some o) : W p l e (rmx 7 1) s m args below meth c H locs 1 6 (gEX below args s D (xtys cI cB cZ cQ) (xcell g cI cB cZ cQ) xord g 1 false o) (F0 m 36 ls [.int t0]) := by
  unfold fX11_hush_b36 at hF
  refine lv_istore_n (lv' := [(3, .int t0), (0, .ref (g 0)), (1, .int x1), (2, .int x2), (4, .int x4)]) C.1.1 C.1.2.1 dX11_hush_36 rfl hl (by decide) rfl (fun ls hl => ?_)
  refine lv_iload_n C.1.1 C.1.2.1 dX11_hush_37 rfl (lv_at hl 3 rfl) ?_
  refine lv_iload_n C.1.1 C.1.2.1 dX11_hush_38 rfl (lv_at hl 0 rfl) ?_
  refine g_max C hl.1 xMmax_X11_265 ⟨(Nat.le_of_ble_eq_true rfl), (Nat.le_of_ble_eq_true rfl)⟩ (Nat.le_of_ble_eq_true rfl) (Nat.le_of_ble_eq_true rfl) dX11_hush_39 ?_
  refine lv_istore_n (lv' := [(2, .int (if x2 < t0 then t0 else x2)), (3, .int t0), (0, .ref (g 0)), (1, .int x1), (4, .int x4)]) C.1.1 C.1.2.1 dX11_hush_42 rfl hl (by decide) rfl (fun ls hl => ?_)
  refine lv_iinc (v := (x4 + 1 : Int32)) (lv' := [(4, .int ((x4 + 1 : Int32))), (2, .int (if x2 < t0 then t0 else x2)), (3, .int t0), (0, .ref (g 0)), (1, .int x1)]) C.1.1 C.1.2.1 dX11_hush_43 hl (k := 4) rfl rfl (by decide) rfl (fun ls hl => ?_)
  refine lv_goto (tgt := 14) C.1.1 C.1.2.1 dX11_hush_46 (by decide) ?_
  exact K14 _ _ _ _ _ _ _ _ X (lv_sub hl [3, 4, 1, 2, 0] rfl) hF
noncomputable def fX11_hush_b35 (N : Nat) (r14 : Int32 → Int32 → Int32 → Int32 → gS → Option (tR)) (x1 : Int32) (x2 : Int32) (x4 : Int32) (S : gS) : Option (tR) := fX11_hush_b36 N r14 x1 x2 x4 0 S
theorem bX11_hush_35 {N : Nat} {r14 : Int32 → Int32 → Int32 → Int32 → gS → Option (tR)} {x1 : Int32} {x2 : Int32} {x4 : Int32} {S : gS} {H : Heap} {locs : List Loc} {ls : Array Slot} {o : tR} (C : gC p s m args meth c cX11_hush 5 RX11 ((some .int)) D (xtys cI cB cZ cQ) xord g Am) (O : tO l g cI cB cZ cQ Am aK aV) (Tb : ∀ x ∈ c.exceptionTable.toList, False) (K14 : ∀ (x1 : Int32) (x2 : Int32) (x3 : Int32) (x4 : Int32) (S : gS) (H : Heap) (locs : List Loc) (ls : Array Slot), gX D (xcell g cI cB cZ cQ) xord g S s H locs → lv_has ls 5 [(0, .ref (g 0)), (1, .int x1), (2, .int x2), (3, .int x3), (4, .int x4)] → r14 x1 x2 x3 x4 S = some o → W p l e (rmx 7 1) s m args below meth c H locs 1 6 (gEX below args s D (xtys cI cB cZ cQ) (xcell g cI cB cZ cQ) xord g 1 false o) (F0 m 14 ls [])) (X : gX D (xcell g cI cB cZ cQ) xord g S s H locs) (hl : lv_has ls 5 [(0, .ref (g 0)), (1, .int x1), (2, .int x2), (4, .int x4)]) (hF : fX11_hush_b35 N r14 x1 x2 x4 S = some o) : W p l e (rmx 7 1) s m args below meth c H locs 1 6 (gEX below args s D (xtys cI cB cZ cQ) (xcell g cI cB cZ cQ) xord g 1 false o) (F0 m 35 ls []) := by
  unfold fX11_hush_b35 at hF
  refine lv_iconst (v := 0) C.1.1 C.1.2.1 dX11_hush_35 (by decide) ?_
  exact bX11_hush_36 C O Tb K14 X (lv_sub hl [0, 1, 2, 3] rfl) hF
noncomputable def fX11_hush_b29 (N : Nat) (r14 : Int32 → Int32 → Int32 → Int32 → gS → Option (tR)) (x1 : Int32) (x2 : Int32) (x3 : Int32) (x4 : Int32) (S : gS) : Option (tR) := fX11_hush_b36 N r14 x1 x2 x4 ((x3 + 1 : Int32)) S
theorem bX11_hush_29 {N : Nat} {r14 : Int32 → Int32 → Int32 → Int32 → gS → Option (tR)} {x1 : Int32} {x2 : Int32} {x3 : Int32} {x4 : Int32} {S : gS} {H : Heap} {locs : List Loc} {ls : Array Slot} {o : tR} (C : gC p s m args meth c cX11_hush 5 RX11 ((some .int)) D (xtys cI cB cZ cQ) xord g Am) (O : tO l g cI cB cZ cQ Am aK aV) (Tb : ∀ x ∈ c.exceptionTable.toList, False) (K14 : ∀ (x1 : Int32) (x2 : Int32) (x3 : Int32) (x4 : Int32) (S : gS) (H : Heap) (locs : List Loc) (ls : Array Slot), gX D (xcell g cI cB cZ cQ) xord g S s H locs → lv_has ls 5 [(0, .ref (g 0)), (1, .int x1), (2, .int x2), (3, .int x3), (4, .int x4)] → r14 x1 x2 x3 x4 S = some o → W p l e (rmx 7 1) s m args below meth c H locs 1 6 (gEX below args s D (xtys cI cB cZ cQ) (xcell g cI cB cZ cQ) xord g 1 false o) (F0 m 14 ls [])) (X : gX D (xcell g cI cB cZ cQ) xord g S s H locs) (hl : lv_has ls 5 [(0, .ref (g 0)), (1, .int x1), (2, .int x2), (3, .int x3), (4, .int x4)]) (hF : fX11_hush_b29 N r14 x1 x2 x3 x4 S = some o) : W p l e (rmx 7 1) s m args below meth c H locs 1 6 (gEX below args s D (xtys cI cB cZ cQ) (xcell g cI cB cZ cQ) xord g 1 false o) (F0 m 29 ls []) := by
  unfold fX11_hush_b29 at hF
  refine lv_iload_n C.1.1 C.1.2.1 dX11_hush_29 rfl (lv_at hl 3 rfl) ?_
  refine lv_iconst (v := 1) C.1.1 C.1.2.1 dX11_hush_30 (by decide) ?_
  refine lv_iadd C.1.1 C.1.2.1 dX11_hush_31 ?_
  refine lv_goto (tgt := 36) C.1.1 C.1.2.1 dX11_hush_32 (by decide) ?_
  exact bX11_hush_36 C O Tb K14 X (lv_sub hl [0, 1, 2, 4] rfl) hF
noncomputable def fX11_hush_b20 (N : Nat) (r14 : Int32 → Int32 → Int32 → Int32 → gS → Option (tR)) (x1 : Int32) (x2 : Int32) (x3 : Int32) (x4 : Int32) (S : gS) : Option (tR) := bnd (fX11_dripBits N x4 S) fun q1 => (if q1.1 = 0 then fX11_hush_b29 N r14 x1 x2 x3 x4 q1.2 else fX11_hush_b35 N r14 x1 x2 x4 q1.2)
theorem bX11_hush_20 {N : Nat} {r14 : Int32 → Int32 → Int32 → Int32 → gS → Option (tR)} {x1 : Int32} {x2 : Int32} {x3 : Int32} {x4 : Int32} {S : gS} {H : Heap} {locs : List Loc} {ls : Array Slot} {o : tR} (C : gC p s m args meth c cX11_hush 5 RX11 ((some .int)) D (xtys cI cB cZ cQ) xord g Am) (O : tO l g cI cB cZ cQ Am aK aV) (Tb : ∀ x ∈ c.exceptionTable.toList, False) (K14 : ∀ (x1 : Int32) (x2 : Int32) (x3 : Int32) (x4 : Int32) (S : gS) (H : Heap) (locs : List Loc) (ls : Array Slot), gX D (xcell g cI cB cZ cQ) xord g S s H locs → lv_has ls 5 [(0, .ref (g 0)), (1, .int x1), (2, .int x2), (3, .int x3), (4, .int x4)] → r14 x1 x2 x3 x4 S = some o → W p l e (rmx 7 1) s m args below meth c H locs 1 6 (gEX below args s D (xtys cI cB cZ cQ) (xcell g cI cB cZ cQ) xord g 1 false o) (F0 m 14 ls [])) (X : gX D (xcell g cI cB cZ cQ) xord g S s H locs) (hl : lv_has ls 5 [(0, .ref (g 0)), (1, .int x1), (2, .int x2), (3, .int x3), (4, .int x4)]) (hF : fX11_hush_b20 N r14 x1 x2 x3 x4 S = some o) : W p l e (rmx 7 1) s m args below meth c H locs 1 6 (gEX below args s D (xtys cI cB cZ cQ) (xcell g cI cB cZ cQ) xord g 1 false o) (F0 m 20 ls []) := by
  unfold fX11_hush_b20 at hF
  refine lv_aload_n C.1.1 C.1.2.1 dX11_hush_20 rfl (lv_at hl 0 rfl) ?_
  refine lv_iload C.1.1 C.1.2.1 dX11_hush_21 (lv_at hl 4 rfl) ?_
  obtain ⟨q1, hq1, hF⟩ := bnd_some hF
  refine x_callVi C X (k := 0) xv_X11_258 (rfl : xk 0 = 11) rfl rfl (by decide) (kX11_dripBits O.1.1 C.2.2.2.2.1 N x4 S q1 hq1) (Nat.le_of_ble_eq_true rfl) (Nat.le_of_ble_eq_true rfl) (Nat.le_of_ble_eq_true rfl) (Nat.le_of_ble_eq_true rfl) rfl hl.1 rfl (Nat.le_of_ble_eq_true rfl) dX11_hush_23 (fun H locs X => ?_)
  refine lv_if_ne (tgt := 35) C.1.1 C.1.2.1 dX11_hush_26 (by decide) (fun h_z => ?_) (fun h_z => ?_)
  · rw [if_neg h_z] at hF
    exact bX11_hush_35 C O Tb K14 X (lv_sub hl [0, 1, 2, 4] rfl) hF
  · rw [if_pos h_z] at hF
    exact bX11_hush_29 C O Tb K14 X (lv_sub hl [0, 1, 2, 3, 4] rfl) hF
noncomputable def fX11_hush_b14 (N : Nat) (r14 : Int32 → Int32 → Int32 → Int32 → gS → Option (tR)) (x1 : Int32) (x2 : Int32) (x3 : Int32) (x4 : Int32) (S : gS) : Option (tR) := if x1 < x4 then fX11_hush_b49 N x2 S else fX11_hush_b20 N r14 x1 x2 x3 x4 S
theorem bX11_hush_14 {N : Nat} {r14 : Int32 → Int32 → Int32 → Int32 → gS → Option (tR)} {x1 : Int32} {x2 : Int32} {x3 : Int32} {x4 : Int32} {S : gS} {H : Heap} {locs : List Loc} {ls : Array Slot} {o : tR} (C : gC p s m args meth c cX11_hush 5 RX11 ((some .int)) D (xtys cI cB cZ cQ) xord g Am) (O : tO l g cI cB cZ cQ Am aK aV) (Tb : ∀ x ∈ c.exceptionTable.toList, False) (K14 : ∀ (x1 : Int32) (x2 : Int32) (x3 : Int32) (x4 : Int32) (S : gS) (H : Heap) (locs : List Loc) (ls : Array Slot), gX D (xcell g cI cB cZ cQ) xord g S s H locs → lv_has ls 5 [(0, .ref (g 0)), (1, .int x1), (2, .int x2), (3, .int x3), (4, .int x4)] → r14 x1 x2 x3 x4 S = some o → W p l e (rmx 7 1) s m args below meth c H locs 1 6 (gEX below args s D (xtys cI cB cZ cQ) (xcell g cI cB cZ cQ) xord g 1 false o) (F0 m 14 ls [])) (X : gX D (xcell g cI cB cZ cQ) xord g S s H locs) (hl : lv_has ls 5 [(0, .ref (g 0)), (1, .int x1), (2, .int x2), (3, .int x3), (4, .int x4)]) (hF : fX11_hush_b14 N r14 x1 x2 x3 x4 S = some o) : W p l e (rmx 7 1) s m args below meth c H locs 1 6 (gEX below args s D (xtys cI cB cZ cQ) (xcell g cI cB cZ cQ) xord g 1 false o) (F0 m 14 ls []) := by
  unfold fX11_hush_b14 at hF
  refine lv_iload C.1.1 C.1.2.1 dX11_hush_14 (lv_at hl 4 rfl) ?_
  refine lv_iload_n C.1.1 C.1.2.1 dX11_hush_16 rfl (lv_at hl 1 rfl) ?_
  refine lv_icmp_gt (tgt := 49) C.1.1 C.1.2.1 dX11_hush_17 (by decide) (fun h_z => ?_) (fun h_z => ?_)
  · rw [if_pos h_z] at hF
    exact bX11_hush_49 C O Tb X (lv_sub hl [2] rfl) hF
  · rw [if_neg h_z] at hF
    exact bX11_hush_20 C O Tb K14 X (lv_sub hl [0, 1, 2, 3, 4] rfl) hF
noncomputable def fX11_hush_h14 (N : Nat) : Nat → Int32 → Int32 → Int32 → Int32 → gS → Option (tR)
  | 0, _, _, _, _, _ => none
  | n + 1, x1, x2, x3, x4, S => fX11_hush_b14 N (fX11_hush_h14 N n) x1 x2 x3 x4 S
theorem hX11_hush_14 {N : Nat} {o : tR} (C : gC p s m args meth c cX11_hush 5 RX11 ((some .int)) D (xtys cI cB cZ cQ) xord g Am) (O : tO l g cI cB cZ cQ Am aK aV) (Tb : ∀ x ∈ c.exceptionTable.toList, False) : ∀ (n : Nat) (x1 : Int32) (x2 : Int32) (x3 : Int32) (x4 : Int32) (S : gS) (H : Heap) (locs : List Loc) (ls : Array Slot), gX D (xcell g cI cB cZ cQ) xord g S s H locs → lv_has ls 5 [(0, .ref (g 0)), (1, .int x1), (2, .int x2), (3, .int x3), (4, .int x4)] → fX11_hush_h14 N n x1 x2 x3 x4 S = some o → W p l e (rmx 7 1) s m args below meth c H locs 1 6 (gEX below args s D (xtys cI cB cZ cQ) (xcell g cI cB cZ cQ) xord g 1 false o) (F0 m 14 ls []) := by
  intro n
  induction n with
  | zero =>
    intro x1 x2 x3 x4 S H locs ls X hl hF
    exact absurd (show (none : Option (tR)) = some o from hF) (by simp)
  | succ n ih =>
    intro x1 x2 x3 x4 S H locs ls X hl hF
    have hF : fX11_hush_b14 N (fX11_hush_h14 N n) x1 x2 x3 x4 S = some o := hF
    exact bX11_hush_14 C O Tb ih X hl hF
noncomputable def fX11_hush_b0 (N : Nat) (x1 : Int32) (S : gS) : Option (tR) := bnx (fX11_needWithin N x1 1 60 S) fun q1 => (fX11_hush_h14 N N x1 0 0 1 q1.2.2)
theorem bX11_hush_0 {N : Nat} {x1 : Int32} {S : gS} {H : Heap} {locs : List Loc} {ls : Array Slot} {o : tR} (C : gC p s m args meth c cX11_hush 5 RX11 ((some .int)) D (xtys cI cB cZ cQ) xord g Am) (O : tO l g cI cB cZ cQ Am aK aV) (Tb : ∀ x ∈ c.exceptionTable.toList, False) (X : gX D (xcell g cI cB cZ cQ) xord g S s H locs) (hl : lv_has ls 5 [(0, .ref (g 0)), (1, .int x1)]) (hF : fX11_hush_b0 N x1 S = some o) : W p l e (rmx 7 1) s m args below meth c H locs 0 0 (gEX below args s D (xtys cI cB cZ cQ) (xcell g cI cB cZ cQ) xord g 1 false o) (F0 m 0 ls []) := by
  unfold fX11_hush_b0 at hF
  refine lv_iload_n C.1.1 C.1.2.1 dX11_hush_0 rfl (lv_at hl 1 rfl) ?_
  refine lv_iconst (v := 1) C.1.1 C.1.2.1 dX11_hush_1 (by decide) ?_
  refine lv_bipush (v := 60) C.1.1 C.1.2.1 dX11_hush_2 (by decide) ?_
  rcases (bnx_some hF).symm with ⟨q1, hq1, zq1, eo⟩ | ⟨q1, hq1, zq1, hF⟩
  · subst eo
    exact t_thr (t_preS C X xv_X11_239 (kX11_needWithin O C.2.2.2.2.1 N x1 1 60 S q1 hq1) (Nat.le_of_ble_eq_true rfl) (Nat.le_of_ble_eq_true rfl) (Nat.le_of_ble_eq_true rfl) (Nat.le_of_ble_eq_true rfl) rfl hl.1 rfl (Nat.le_of_ble_eq_true rfl) dX11_hush_4) zq1 C Tb X (by decide) (by decide)
  refine t_okv (t_preS C X xv_X11_239 (kX11_needWithin O C.2.2.2.2.1 N x1 1 60 S q1 hq1) (Nat.le_of_ble_eq_true rfl) (Nat.le_of_ble_eq_true rfl) (Nat.le_of_ble_eq_true rfl) (Nat.le_of_ble_eq_true rfl) rfl hl.1 rfl (Nat.le_of_ble_eq_true rfl) dX11_hush_4) zq1 X (fun H locs X => ?_)
  refine W.widen (k := 1) (n := 6) (by decide) (by decide) ?_
  refine lv_iconst (v := 0) C.1.1 C.1.2.1 dX11_hush_7 (by decide) ?_
  refine lv_istore_n (lv' := [(2, .int 0), (0, .ref (g 0)), (1, .int x1)]) C.1.1 C.1.2.1 dX11_hush_8 rfl hl (by decide) rfl (fun ls hl => ?_)
  refine lv_iconst (v := 0) C.1.1 C.1.2.1 dX11_hush_9 (by decide) ?_
  refine lv_istore_n (lv' := [(3, .int 0), (2, .int 0), (0, .ref (g 0)), (1, .int x1)]) C.1.1 C.1.2.1 dX11_hush_10 rfl hl (by decide) rfl (fun ls hl => ?_)
  refine lv_iconst (v := 1) C.1.1 C.1.2.1 dX11_hush_11 (by decide) ?_
  refine lv_istore (lv' := [(4, .int 1), (3, .int 0), (2, .int 0), (0, .ref (g 0)), (1, .int x1)]) C.1.1 C.1.2.1 dX11_hush_12 hl (by decide) rfl (fun ls hl => ?_)
  exact hX11_hush_14 C O Tb N _ _ _ _ _ _ _ _ X (lv_sub hl [3, 4, 2, 1, 0] rfl) hF
noncomputable def fX11_hush (N : Nat) (x1 : Int32) (S : gS) : Option (tR) := fX11_hush_b0 N x1 S
theorem kX11_hush {l : Launch} {D : va_G} {g : Nat → Nat} {cI cB cZ cQ : ClassId} {Am : (Nat → Prop) → State → Heap → Prop} {aK aV : Nat → Nat} (O : tO l g cI cB cZ cQ Am aK aV) (P : gAm Am) (N : Nat) (x1 : Int32) (S : gS) (o : tR) (hF : fX11_hush N x1 S = some o) : gN l yX11_hush cX11_hush 5 ((some .int)) 7 1 D (xtys cI cB cZ cQ) (xcell g cI cB cZ cQ) xord g Am [.ref (g 0), .int x1] S false o :=
  gN_of P (by decide) (Nat.le_of_ble_eq_true rfl) (fun p e s m args below meth c ls C Tb X hl => bX11_hush_0 C O Tb X (lv_sub hl [0, 1] rfl) hF)
-- X11.chorus
noncomputable def fX11_chorus_b49 (N : Nat) (x2 : Int32) (S : gS) : Option (tR) := some (0, x2, S)
theorem bX11_chorus_49 {N : Nat} {x2 : Int32} {S : gS} {H : Heap} {locs : List Loc} {ls : Array Slot} {o : tR} (C : gC p s m args meth c cX11_chorus 6 RX11 ((some .int)) D (xtys cI cB cZ cQ) xord g Am) (O : tO l g cI cB cZ cQ Am aK aV) (Tb : ∀ x ∈ c.exceptionTable.toList, False) (X : gX D (xcell g cI cB cZ cQ) xord g S s H locs) (hl : lv_has ls 6 [(2, .int x2)]) (hF : fX11_chorus_b49 N x2 S = some o) : W p l e (rmx 7 1) s m args below meth c H locs 1 6 (gEX below args s D (xtys cI cB cZ cQ) (xcell g cI cB cZ cQ) xord g 1 false o) (F0 m 49 ls []) := by
  unfold fX11_chorus_b49 at hF
  refine lv_iload_n C.1.1 C.1.2.1 dX11_chorus_49 rfl (lv_at hl 0 rfl) ?_
  cases hF
  exact t_iret C X (by decide) (by decide) dX11_chorus_50
noncomputable def fX11_chorus_b43 (N : Nat) (r14 : Int32 → Int32 → Int32 → Int32 → gS → Option (tR)) (x1 : Int32) (x2 : Int32) (x3 : Int32) (x4 : Int32) (S : gS) : Option (tR) := r14 x1 x2 x3 ((x4 + 1 : Int32)) S
theorem bX11_chorus_43 {N : Nat} {r14 : Int32 → Int32 → Int32 → Int32 → gS → Option (tR)} {x1 : Int32} {x2 : Int32} {x3 : Int32} {x4 : Int32} {S : gS} {H : Heap} {locs : List Loc} {ls : Array Slot} {o : tR} (C : gC p s m args meth c cX11_chorus 6 RX11 ((some .int)) D (xtys cI cB cZ cQ) xord g Am) (O : tO l g cI cB cZ cQ Am aK aV) (Tb : ∀ x ∈ c.exceptionTable.toList, False) (K14 : ∀ (x1 : Int32) (x2 : Int32) (x3 : Int32) (x4 : Int32) (S : gS) (H : Heap) (locs : List Loc) (ls : Array Slot), gX D (xcell g cI cB cZ cQ) xord g S s H locs → lv_has ls 6 [(0, .ref (g 0)), (1, .int x1), (2, .int x2), (3, .int x3), (4, .int x4)] → r14 x1 x2 x3 x4 S = some o → W p l e (rmx 7 1) s m args below meth c H locs 1 6 (gEX below args s D (xtys cI cB cZ cQ) (xcell g cI cB cZ cQ) xord g 1 false o) (F0 m 14 ls [])) (X : gX D (xcell g cI cB cZ cQ) xord g S s H locs) (hl : lv_has ls 6 [(0, .ref (g 0)), (1, .int x1), (2, .int x2), (3, .int x3), (4, .int x4)]) (hF : fX11_chorus_b43 N r14 x1 x2 x3 x4 S = some o) : W p l e (rmx 7 1) s m args below meth c H locs 1 6 (gEX below args s D (xtys cI cB cZ cQ) (xcell g cI cB cZ cQ) xord g 1 false o) (F0 m 43 ls []) := by
  unfold fX11_chorus_b43 at hF
  refine lv_iinc (v := (x4 + 1 : Int32)) (lv' := [(4, .int ((x4 + 1 : Int32))), (0, .ref (g 0)), (1, .int x1), (2, .int x2), (3, .int x3)]) C.1.1 C.1.2.1 dX11_chorus_43 hl (k := 4) rfl rfl (by decide) rfl (fun ls hl => ?_)
  refine lv_goto (tgt := 14) C.1.1 C.1.2.1 dX11_chorus_46 (by decide) ?_
  exact K14 _ _ _ _ _ _ _ _ X (lv_sub hl [1, 2, 3, 4, 0] rfl) hF
noncomputable def fX11_chorus_b37 (N : Nat) (r14 : Int32 → Int32 → Int32 → Int32 → gS → Option (tR)) (x1 : Int32) (x4 : Int32) (x5 : Int32) (S : gS) : Option (tR) := fX11_chorus_b43 N r14 x1 x4 x5 x4 S
theorem bX11_chorus_37 {N : Nat} {r14 : Int32 → Int32 → Int32 → Int32 → gS → Option (tR)} {x1 : Int32} {x4 : Int32} {x5 : Int32} {S : gS} {H : Heap} {locs : List Loc} {ls : Array Slot} {o : tR} (C : gC p s m args meth c cX11_chorus 6 RX11 ((some .int)) D (xtys cI cB cZ cQ) xord g Am) (O : tO l g cI cB cZ cQ Am aK aV) (Tb : ∀ x ∈ c.exceptionTable.toList, False) (K14 : ∀ (x1 : Int32) (x2 : Int32) (x3 : Int32) (x4 : Int32) (S : gS) (H : Heap) (locs : List Loc) (ls : Array Slot), gX D (xcell g cI cB cZ cQ) xord g S s H locs → lv_has ls 6 [(0, .ref (g 0)), (1, .int x1), (2, .int x2), (3, .int x3), (4, .int x4)] → r14 x1 x2 x3 x4 S = some o → W p l e (rmx 7 1) s m args below meth c H locs 1 6 (gEX below args s D (xtys cI cB cZ cQ) (xcell g cI cB cZ cQ) xord g 1 false o) (F0 m 14 ls [])) (X : gX D (xcell g cI cB cZ cQ) xord g S s H locs) (hl : lv_has ls 6 [(0, .ref (g 0)), (1, .int x1), (4, .int x4), (5, .int x5)]) (hF : fX11_chorus_b37 N r14 x1 x4 x5 S = some o) : W p l e (rmx 7 1) s m args below meth c H locs 1 6 (gEX below args s D (xtys cI cB cZ cQ) (xcell g cI cB cZ cQ) xord g 1 false o) (F0 m 37 ls []) := by
  unfold fX11_chorus_b37 at hF
  refine lv_iload C.1.1 C.1.2.1 dX11_chorus_37 (lv_at hl 2 rfl) ?_
  refine lv_istore_n (lv' := [(2, .int x4), (0, .ref (g 0)), (1, .int x1), (4, .int x4), (5, .int x5)]) C.1.1 C.1.2.1 dX11_chorus_39 rfl hl (by decide) rfl (fun ls hl => ?_)
  refine lv_iload C.1.1 C.1.2.1 dX11_chorus_40 (lv_at hl 4 rfl) ?_
  refine lv_istore_n (lv' := [(3, .int x5), (2, .int x4), (0, .ref (g 0)), (1, .int x1), (4, .int x4), (5, .int x5)]) C.1.1 C.1.2.1 dX11_chorus_42 rfl hl (by decide) rfl (fun ls hl => ?_)
  exact bX11_chorus_43 C O Tb K14 X (lv_sub hl [2, 3, 1, 0, 4] rfl) hF
noncomputable def fX11_chorus_b20 (N : Nat) (r14 : Int32 → Int32 → Int32 → Int32 → gS → Option (tR)) (x1 : Int32) (x2 : Int32) (x3 : Int32) (x4 : Int32) (S : gS) : Option (tR) := bnd (fX11_dripBits N x4 S) fun q1 => (bnd (fJ6_bitCount_0f7a4 N q1.1 q1.2) fun q2 => (if q2.1 ≤ x3 then fX11_chorus_b43 N r14 x1 x2 x3 x4 q2.2 else fX11_chorus_b37 N r14 x1 x4 q2.1 q2.2))
theorem bX11_chorus_20 {N : Nat} {r14 : Int32 → Int32 → Int32 → Int32 → gS → Option (tR)} {x1 : Int32} {x2 : Int32} {x3 : Int32} {x4 : Int32} {S : gS} {H : Heap} {locs : List Loc} {ls : Array Slot} {o : tR} (C : gC p s m args meth c cX11_chorus 6 RX11 ((some .int)) D (xtys cI cB cZ cQ) xord g Am) (O : tO l g cI cB cZ cQ Am aK aV) (Tb : ∀ x ∈ c.exceptionTable.toList, False) (K14 : ∀ (x1 : Int32) (x2 : Int32) (x3 : Int32) (x4 : Int32) (S : gS) (H : Heap) (locs : List Loc) (ls : Array Slot), gX D (xcell g cI cB cZ cQ) xord g S s H locs → lv_has ls 6 [(0, .ref (g 0)), (1, .int x1), (2, .int x2), (3, .int x3), (4, .int x4)] → r14 x1 x2 x3 x4 S = some o → W p l e (rmx 7 1) s m args below meth c H locs 1 6 (gEX below args s D (xtys cI cB cZ cQ) (xcell g cI cB cZ cQ) xord g 1 false o) (F0 m 14 ls [])) (X : gX D (xcell g cI cB cZ cQ) xord g S s H locs) (hl : lv_has ls 6 [(0, .ref (g 0)), (1, .int x1), (2, .int x2), (3, .int x3), (4, .int x4)]) (hF : fX11_chorus_b20 N r14 x1 x2 x3 x4 S = some o) : W p l e (rmx 7 1) s m args below meth c H locs 1 6 (gEX below args s D (xtys cI cB cZ cQ) (xcell g cI cB cZ cQ) xord g 1 false o) (F0 m 20 ls []) := by
  unfold fX11_chorus_b20 at hF
  refine lv_aload_n C.1.1 C.1.2.1 dX11_chorus_20 rfl (lv_at hl 0 rfl) ?_
  refine lv_iload C.1.1 C.1.2.1 dX11_chorus_21 (lv_at hl 4 rfl) ?_
  obtain ⟨q1, hq1, hF⟩ := bnd_some hF
  refine x_callVi C X (k := 0) xv_X11_258 (rfl : xk 0 = 11) rfl rfl (by decide) (kX11_dripBits O.1.1 C.2.2.2.2.1 N x4 S q1 hq1) (Nat.le_of_ble_eq_true rfl) (Nat.le_of_ble_eq_true rfl) (Nat.le_of_ble_eq_true rfl) (Nat.le_of_ble_eq_true rfl) rfl hl.1 rfl (Nat.le_of_ble_eq_true rfl) dX11_chorus_23 (fun H locs X => ?_)
  obtain ⟨q2, hq2, hF⟩ := bnd_some hF
  refine g_callOi C X xv_X11_271 (kJ6_bitCount_0f7a4 (xs_sO O.1) C.2.2.2.2.1 N q1.1 q1.2 q2 hq2) (Nat.le_of_ble_eq_true rfl) (Nat.le_of_ble_eq_true rfl) (Nat.le_of_ble_eq_true rfl) (Nat.le_of_ble_eq_true rfl) rfl hl.1 rfl (Nat.le_of_ble_eq_true rfl) dX11_chorus_26 (fun H locs X => ?_)
  refine lv_istore (lv' := [(5, .int q2.1), (0, .ref (g 0)), (1, .int x1), (2, .int x2), (3, .int x3), (4, .int x4)]) C.1.1 C.1.2.1 dX11_chorus_29 hl (by decide) rfl (fun ls hl => ?_)
  refine lv_iload C.1.1 C.1.2.1 dX11_chorus_31 (lv_at hl 0 rfl) ?_
  refine lv_iload_n C.1.1 C.1.2.1 dX11_chorus_33 rfl (lv_at hl 4 rfl) ?_
  refine lv_icmp_le (tgt := 43) C.1.1 C.1.2.1 dX11_chorus_34 (by decide) (fun h_z => ?_) (fun h_z => ?_)
  · rw [if_pos h_z] at hF
    exact bX11_chorus_43 C O Tb K14 X (lv_sub hl [1, 2, 3, 4, 5] rfl) hF
  · rw [if_neg h_z] at hF
    exact bX11_chorus_37 C O Tb K14 X (lv_sub hl [1, 2, 5, 0] rfl) hF
noncomputable def fX11_chorus_b14 (N : Nat) (r14 : Int32 → Int32 → Int32 → Int32 → gS → Option (tR)) (x1 : Int32) (x2 : Int32) (x3 : Int32) (x4 : Int32) (S : gS) : Option (tR) := if x1 < x4 then fX11_chorus_b49 N x2 S else fX11_chorus_b20 N r14 x1 x2 x3 x4 S
theorem bX11_chorus_14 {N : Nat} {r14 : Int32 → Int32 → Int32 → Int32 → gS → Option (tR)} {x1 : Int32} {x2 : Int32} {x3 : Int32} {x4 : Int32} {S : gS} {H : Heap} {locs : List Loc} {ls : Array Slot} {o : tR} (C : gC p s m args meth c cX11_chorus 6 RX11 ((some .int)) D (xtys cI cB cZ cQ) xord g Am) (O : tO l g cI cB cZ cQ Am aK aV) (Tb : ∀ x ∈ c.exceptionTable.toList, False) (K14 : ∀ (x1 : Int32) (x2 : Int32) (x3 : Int32) (x4 : Int32) (S : gS) (H : Heap) (locs : List Loc) (ls : Array Slot), gX D (xcell g cI cB cZ cQ) xord g S s H locs → lv_has ls 6 [(0, .ref (g 0)), (1, .int x1), (2, .int x2), (3, .int x3), (4, .int x4)] → r14 x1 x2 x3 x4 S = some o → W p l e (rmx 7 1) s m args below meth c H locs 1 6 (gEX below args s D (xtys cI cB cZ cQ) (xcell g cI cB cZ cQ) xord g 1 false o) (F0 m 14 ls [])) (X : gX D (xcell g cI cB cZ cQ) xord g S s H locs) (hl : lv_has ls 6 [(0, .ref (g 0)), (1, .int x1), (2, .int x2), (3, .int x3), (4, .int x4)]) (hF : fX11_chorus_b14 N r14 x1 x2 x3 x4 S = some o) : W p l e (rmx 7 1) s m args below meth c H locs 1 6 (gEX below args s D (xtys cI cB cZ cQ) (xcell g cI cB cZ cQ) xord g 1 false o) (F0 m 14 ls []) := by
  unfold fX11_chorus_b14 at hF
  refine lv_iload C.1.1 C.1.2.1 dX11_chorus_14 (lv_at hl 4 rfl) ?_
  refine lv_iload_n C.1.1 C.1.2.1 dX11_chorus_16 rfl (lv_at hl 1 rfl) ?_
  refine lv_icmp_gt (tgt := 49) C.1.1 C.1.2.1 dX11_chorus_17 (by decide) (fun h_z => ?_) (fun h_z => ?_)
  · rw [if_pos h_z] at hF
    exact bX11_chorus_49 C O Tb X (lv_sub hl [2] rfl) hF
  · rw [if_neg h_z] at hF
    exact bX11_chorus_20 C O Tb K14 X (lv_sub hl [0, 1, 2, 3, 4] rfl) hF
noncomputable def fX11_chorus_h14 (N : Nat) : Nat → Int32 → Int32 → Int32 → Int32 → gS → Option (tR)
  | 0, _, _, _, _, _ => none
  | n + 1, x1, x2, x3, x4, S => fX11_chorus_b14 N (fX11_chorus_h14 N n) x1 x2 x3 x4 S
theorem hX11_chorus_14 {N : Nat} {o : tR} (C : gC p s m args meth c cX11_chorus 6 RX11 ((some .int)) D (xtys cI cB cZ cQ) xord g Am) (O : tO l g cI cB cZ cQ Am aK aV) (Tb : ∀ x ∈ c.exceptionTable.toList, False) : ∀ (n : Nat) (x1 : Int32) (x2 : Int32) (x3 : Int32) (x4 : Int32) (S : gS) (H : Heap) (locs : List Loc) (ls : Array Slot), gX D (xcell g cI cB cZ cQ) xord g S s H locs → lv_has ls 6 [(0, .ref (g 0)), (1, .int x1), (2, .int x2), (3, .int x3), (4, .int x4)] → fX11_chorus_h14 N n x1 x2 x3 x4 S = some o → W p l e (rmx 7 1) s m args below meth c H locs 1 6 (gEX below args s D (xtys cI cB cZ cQ) (xcell g cI cB cZ cQ) xord g 1 false o) (F0 m 14 ls []) := by
  intro n
  induction n with
  | zero =>
    intro x1 x2 x3 x4 S H locs ls X hl hF
    exact absurd (show (none : Option (tR)) = some o from hF) (by simp)
  | succ n ih =>
    intro x1 x2 x3 x4 S H locs ls X hl hF
    have hF : fX11_chorus_b14 N (fX11_chorus_h14 N n) x1 x2 x3 x4 S = some o := hF
    exact bX11_chorus_14 C O Tb ih X hl hF
noncomputable def fX11_chorus_b0 (N : Nat) (x1 : Int32) (S : gS) : Option (tR) := bnx (fX11_needWithin N x1 1 60 S) fun q1 => (fX11_chorus_h14 N N x1 ((-1)) ((-1)) 1 q1.2.2)
theorem bX11_chorus_0 {N : Nat} {x1 : Int32} {S : gS} {H : Heap} {locs : List Loc} {ls : Array Slot} {o : tR} (C : gC p s m args meth c cX11_chorus 6 RX11 ((some .int)) D (xtys cI cB cZ cQ) xord g Am) (O : tO l g cI cB cZ cQ Am aK aV) (Tb : ∀ x ∈ c.exceptionTable.toList, False) (X : gX D (xcell g cI cB cZ cQ) xord g S s H locs) (hl : lv_has ls 6 [(0, .ref (g 0)), (1, .int x1)]) (hF : fX11_chorus_b0 N x1 S = some o) : W p l e (rmx 7 1) s m args below meth c H locs 0 0 (gEX below args s D (xtys cI cB cZ cQ) (xcell g cI cB cZ cQ) xord g 1 false o) (F0 m 0 ls []) := by
  unfold fX11_chorus_b0 at hF
  refine lv_iload_n C.1.1 C.1.2.1 dX11_chorus_0 rfl (lv_at hl 1 rfl) ?_
  refine lv_iconst (v := 1) C.1.1 C.1.2.1 dX11_chorus_1 (by decide) ?_
  refine lv_bipush (v := 60) C.1.1 C.1.2.1 dX11_chorus_2 (by decide) ?_
  rcases (bnx_some hF).symm with ⟨q1, hq1, zq1, eo⟩ | ⟨q1, hq1, zq1, hF⟩
  · subst eo
    exact t_thr (t_preS C X xv_X11_239 (kX11_needWithin O C.2.2.2.2.1 N x1 1 60 S q1 hq1) (Nat.le_of_ble_eq_true rfl) (Nat.le_of_ble_eq_true rfl) (Nat.le_of_ble_eq_true rfl) (Nat.le_of_ble_eq_true rfl) rfl hl.1 rfl (Nat.le_of_ble_eq_true rfl) dX11_chorus_4) zq1 C Tb X (by decide) (by decide)
  refine t_okv (t_preS C X xv_X11_239 (kX11_needWithin O C.2.2.2.2.1 N x1 1 60 S q1 hq1) (Nat.le_of_ble_eq_true rfl) (Nat.le_of_ble_eq_true rfl) (Nat.le_of_ble_eq_true rfl) (Nat.le_of_ble_eq_true rfl) rfl hl.1 rfl (Nat.le_of_ble_eq_true rfl) dX11_chorus_4) zq1 X (fun H locs X => ?_)
  refine W.widen (k := 1) (n := 6) (by decide) (by decide) ?_
  refine lv_iconst (v := (-1)) C.1.1 C.1.2.1 dX11_chorus_7 (by decide) ?_
  refine lv_istore_n (lv' := [(2, .int ((-1))), (0, .ref (g 0)), (1, .int x1)]) C.1.1 C.1.2.1 dX11_chorus_8 rfl hl (by decide) rfl (fun ls hl => ?_)
  refine lv_iconst (v := (-1)) C.1.1 C.1.2.1 dX11_chorus_9 (by decide) ?_
  refine lv_istore_n (lv' := [(3, .int ((-1))), (2, .int ((-1))), (0, .ref (g 0)), (1, .int x1)]) C.1.1 C.1.2.1 dX11_chorus_10 rfl hl (by decide) rfl (fun ls hl => ?_)
  refine lv_iconst (v := 1) C.1.1 C.1.2.1 dX11_chorus_11 (by decide) ?_
  refine lv_istore (lv' := [(4, .int 1), (3, .int ((-1))), (2, .int ((-1))), (0, .ref (g 0)), (1, .int x1)]) C.1.1 C.1.2.1 dX11_chorus_12 hl (by decide) rfl (fun ls hl => ?_)
  exact hX11_chorus_14 C O Tb N _ _ _ _ _ _ _ _ X (lv_sub hl [3, 4, 2, 1, 0] rfl) hF
noncomputable def fX11_chorus (N : Nat) (x1 : Int32) (S : gS) : Option (tR) := fX11_chorus_b0 N x1 S
theorem kX11_chorus {l : Launch} {D : va_G} {g : Nat → Nat} {cI cB cZ cQ : ClassId} {Am : (Nat → Prop) → State → Heap → Prop} {aK aV : Nat → Nat} (O : tO l g cI cB cZ cQ Am aK aV) (P : gAm Am) (N : Nat) (x1 : Int32) (S : gS) (o : tR) (hF : fX11_chorus N x1 S = some o) : gN l yX11_chorus cX11_chorus 6 ((some .int)) 7 1 D (xtys cI cB cZ cQ) (xcell g cI cB cZ cQ) xord g Am [.ref (g 0), .int x1] S false o :=
  gN_of P (by decide) (Nat.le_of_ble_eq_true rfl) (fun p e s m args below meth c ls C Tb X hl => bX11_chorus_0 C O Tb X (lv_sub hl [0, 1] rfl) hF)
-- X11.together
noncomputable def fX11_together_b70 (N : Nat) (x2 : Int32) (S : gS) : Option (tR) := some (0, x2, S)
theorem bX11_together_70 {N : Nat} {x2 : Int32} {S : gS} {H : Heap} {locs : List Loc} {ls : Array Slot} {o : tR} (C : gC p s m args meth c cX11_together 5 RX11 ((some .int)) D (xtys cI cB cZ cQ) xord g Am) (O : tO l g cI cB cZ cQ Am aK aV) (Tb : ∀ x ∈ c.exceptionTable.toList, False) (X : gX D (xcell g cI cB cZ cQ) xord g S s H locs) (hl : lv_has ls 5 [(2, .int x2)]) (hF : fX11_together_b70 N x2 S = some o) : W p l e (rmx 7 1) s m args below meth c H locs 1 6 (gEX below args s D (xtys cI cB cZ cQ) (xcell g cI cB cZ cQ) xord g 1 false o) (F0 m 70 ls []) := by
  unfold fX11_together_b70 at hF
  refine lv_iload_n C.1.1 C.1.2.1 dX11_together_70 rfl (lv_at hl 0 rfl) ?_
  cases hF
  exact t_iret C X (by decide) (by decide) dX11_together_71
noncomputable def fX11_together_b64 (N : Nat) (r12 : Int32 → Int32 → Int32 → Int32 → gS → Option (tR)) (x1 : Int32) (x2 : Int32) (x3 : Int32) (x4 : Int32) (S : gS) : Option (tR) := r12 x1 x2 x3 ((x4 + 1 : Int32)) S
theorem bX11_together_64 {N : Nat} {r12 : Int32 → Int32 → Int32 → Int32 → gS → Option (tR)} {x1 : Int32} {x2 : Int32} {x3 : Int32} {x4 : Int32} {S : gS} {H : Heap} {locs : List Loc} {ls : Array Slot} {o : tR} (C : gC p s m args meth c cX11_together 5 RX11 ((some .int)) D (xtys cI cB cZ cQ) xord g Am) (O : tO l g cI cB cZ cQ Am aK aV) (Tb : ∀ x ∈ c.exceptionTable.toList, False) (K12 : ∀ (x1 : Int32) (x2 : Int32) (x3 : Int32) (x4 : Int32) (S : gS) (H : Heap) (locs : List Loc) (ls : Array Slot), gX D (xcell g cI cB cZ cQ) xord g S s H locs → lv_has ls 5 [(0, .ref (g 0)), (1, .int x1), (2, .int x2), (3, .int x3), (4, .int x4)] → r12 x1 x2 x3 x4 S = some o → W p l e (rmx 7 1) s m args below meth c H locs 1 6 (gEX below args s D (xtys cI cB cZ cQ) (xcell g cI cB cZ cQ) xord g 1 false o) (F0 m 12 ls [])) (X : gX D (xcell g cI cB cZ cQ) xord g S s H locs) (hl : lv_has ls 5 [(0, .ref (g 0)), (1, .int x1), (2, .int x2), (3, .int x3), (4, .int x4)]) (hF : fX11_together_b64 N r12 x1 x2 x3 x4 S = some o) : W p l e (rmx 7 1) s m args below meth c H locs 1 6 (gEX below args s D (xtys cI cB cZ cQ) (xcell g cI cB cZ cQ) xord g 1 false o) (F0 m 64 ls []) := by
  unfold fX11_together_b64 at hF
  refine lv_iinc (v := (x4 + 1 : Int32)) (lv' := [(4, .int ((x4 + 1 : Int32))), (0, .ref (g 0)), (1, .int x1), (2, .int x2), (3, .int x3)]) C.1.1 C.1.2.1 dX11_together_64 hl (k := 4) rfl rfl (by decide) rfl (fun ls hl => ?_)
  refine lv_goto (tgt := 12) C.1.1 C.1.2.1 dX11_together_67 (by decide) ?_
  exact K12 _ _ _ _ _ _ _ _ X (lv_sub hl [1, 2, 3, 4, 0] rfl) hF
noncomputable def fX11_together_b49 (N : Nat) (r12 : Int32 → Int32 → Int32 → Int32 → gS → Option (tR)) (x1 : Int32) (x2 : Int32) (x3 : Int32) (x4 : Int32) (S : gS) : Option (tR) := lt (xtw S) fun T1 => (chk (inb x4 8) (bnd (fX11_leastCommon N x3 (S (T1 + 1) (Int32.toNatClampNeg x4)) S) fun q1 => (fX11_together_b64 N r12 x1 x2 q1.1 x4 q1.2)))
theorem bX11_together_49 {N : Nat} {r12 : Int32 → Int32 → Int32 → Int32 → gS → Option (tR)} {x1 : Int32} {x2 : Int32} {x3 : Int32} {x4 : Int32} {S : gS} {H : Heap} {locs : List Loc} {ls : Array Slot} {o : tR} (C : gC p s m args meth c cX11_together 5 RX11 ((some .int)) D (xtys cI cB cZ cQ) xord g Am) (O : tO l g cI cB cZ cQ Am aK aV) (Tb : ∀ x ∈ c.exceptionTable.toList, False) (K12 : ∀ (x1 : Int32) (x2 : Int32) (x3 : Int32) (x4 : Int32) (S : gS) (H : Heap) (locs : List Loc) (ls : Array Slot), gX D (xcell g cI cB cZ cQ) xord g S s H locs → lv_has ls 5 [(0, .ref (g 0)), (1, .int x1), (2, .int x2), (3, .int x3), (4, .int x4)] → r12 x1 x2 x3 x4 S = some o → W p l e (rmx 7 1) s m args below meth c H locs 1 6 (gEX below args s D (xtys cI cB cZ cQ) (xcell g cI cB cZ cQ) xord g 1 false o) (F0 m 12 ls [])) (X : gX D (xcell g cI cB cZ cQ) xord g S s H locs) (hl : lv_has ls 5 [(0, .ref (g 0)), (1, .int x1), (2, .int x2), (3, .int x3), (4, .int x4)]) (hF : fX11_together_b49 N r12 x1 x2 x3 x4 S = some o) : W p l e (rmx 7 1) s m args below meth c H locs 1 6 (gEX below args s D (xtys cI cB cZ cQ) (xcell g cI cB cZ cQ) xord g 1 false o) (F0 m 49 ls []) := by
  unfold fX11_together_b49 at hF
  refine lv_iload_n C.1.1 C.1.2.1 dX11_together_49 rfl (lv_at hl 3 rfl) ?_
  refine lv_aload_n C.1.1 C.1.2.1 dX11_together_50 rfl (lv_at hl 0 rfl) ?_
  obtain ⟨T1, eT1, hF⟩ := lt_some hF
  have hk_T1 := xtw_k eT1
  refine xg_X11_57 C O.1.1 X (T := T1) eT1 (k := 0) rfl dX11_together_51 ?_
  refine xg_X11_165 C O.1.1 X (k := T1) hk_T1 (j := T1 + 1) rfl dX11_together_54 ?_
  refine lv_iload C.1.1 C.1.2.1 dX11_together_57 (lv_at hl 4 rfl) ?_
  obtain ⟨h_1, hF⟩ := chk_some hF
  refine x_rI C X (k := T1 + 1) (xs_9_1 hk_T1).1 (n := 8) (xs_9_1 hk_T1).2  (inb_vp h_1) rfl dX11_together_59 ?_
  obtain ⟨q1, hq1, hF⟩ := bnd_some hF
  refine g_callSi C X xv_X11_287 (kX11_leastCommon O.1.1 C.2.2.2.2.1 N x3 (S (T1 + 1) (Int32.toNatClampNeg x4)) S q1 hq1) (Nat.le_of_ble_eq_true rfl) (Nat.le_of_ble_eq_true rfl) (Nat.le_of_ble_eq_true rfl) (Nat.le_of_ble_eq_true rfl) rfl hl.1 rfl (Nat.le_of_ble_eq_true rfl) dX11_together_60 (fun H locs X => ?_)
  refine lv_istore_n (lv' := [(3, .int q1.1), (0, .ref (g 0)), (1, .int x1), (2, .int x2), (4, .int x4)]) C.1.1 C.1.2.1 dX11_together_63 rfl hl (by decide) rfl (fun ls hl => ?_)
  exact bX11_together_64 C O Tb K12 X (lv_sub hl [1, 2, 3, 0, 4] rfl) hF
noncomputable def fX11_together_b47 (N : Nat) (S : gS) : Option (tR) := some (0, (-1), S)
theorem bX11_together_47 {N : Nat} {S : gS} {H : Heap} {locs : List Loc} {ls : Array Slot} {o : tR} (C : gC p s m args meth c cX11_together 5 RX11 ((some .int)) D (xtys cI cB cZ cQ) xord g Am) (O : tO l g cI cB cZ cQ Am aK aV) (Tb : ∀ x ∈ c.exceptionTable.toList, False) (X : gX D (xcell g cI cB cZ cQ) xord g S s H locs) (hl : lv_has ls 5 []) (hF : fX11_together_b47 N S = some o) : W p l e (rmx 7 1) s m args below meth c H locs 1 6 (gEX below args s D (xtys cI cB cZ cQ) (xcell g cI cB cZ cQ) xord g 1 false o) (F0 m 47 ls []) := by
  unfold fX11_together_b47 at hF
  refine lv_iconst (v := (-1)) C.1.1 C.1.2.1 dX11_together_47 (by decide) ?_
  cases hF
  exact t_iret (x := (-1)) C X (by decide) (by decide) dX11_together_48
noncomputable def fX11_together_b33 (N : Nat) (r12 : Int32 → Int32 → Int32 → Int32 → gS → Option (tR)) (x1 : Int32) (x2 : Int32) (x3 : Int32) (x4 : Int32) (S : gS) : Option (tR) := bnd (fX11_nextOf N x4 x2 x3 S) fun q1 => (if q1.1 = ((-1)) then fX11_together_b47 N q1.2 else fX11_together_b49 N r12 x1 q1.1 x3 x4 q1.2)
theorem bX11_together_33 {N : Nat} {r12 : Int32 → Int32 → Int32 → Int32 → gS → Option (tR)} {x1 : Int32} {x2 : Int32} {x3 : Int32} {x4 : Int32} {S : gS} {H : Heap} {locs : List Loc} {ls : Array Slot} {o : tR} (C : gC p s m args meth c cX11_together 5 RX11 ((some .int)) D (xtys cI cB cZ cQ) xord g Am) (O : tO l g cI cB cZ cQ Am aK aV) (Tb : ∀ x ∈ c.exceptionTable.toList, False) (K12 : ∀ (x1 : Int32) (x2 : Int32) (x3 : Int32) (x4 : Int32) (S : gS) (H : Heap) (locs : List Loc) (ls : Array Slot), gX D (xcell g cI cB cZ cQ) xord g S s H locs → lv_has ls 5 [(0, .ref (g 0)), (1, .int x1), (2, .int x2), (3, .int x3), (4, .int x4)] → r12 x1 x2 x3 x4 S = some o → W p l e (rmx 7 1) s m args below meth c H locs 1 6 (gEX below args s D (xtys cI cB cZ cQ) (xcell g cI cB cZ cQ) xord g 1 false o) (F0 m 12 ls [])) (X : gX D (xcell g cI cB cZ cQ) xord g S s H locs) (hl : lv_has ls 5 [(0, .ref (g 0)), (1, .int x1), (2, .int x2), (3, .int x3), (4, .int x4)]) (hF : fX11_together_b33 N r12 x1 x2 x3 x4 S = some o) : W p l e (rmx 7 1) s m args below meth c H locs 1 6 (gEX below args s D (xtys cI cB cZ cQ) (xcell g cI cB cZ cQ) xord g 1 false o) (F0 m 33 ls []) := by
  unfold fX11_together_b33 at hF
  refine lv_aload_n C.1.1 C.1.2.1 dX11_together_33 rfl (lv_at hl 0 rfl) ?_
  refine lv_iload C.1.1 C.1.2.1 dX11_together_34 (lv_at hl 4 rfl) ?_
  refine lv_iload_n C.1.1 C.1.2.1 dX11_together_36 rfl (lv_at hl 2 rfl) ?_
  refine lv_iload_n C.1.1 C.1.2.1 dX11_together_37 rfl (lv_at hl 3 rfl) ?_
  obtain ⟨q1, hq1, hF⟩ := bnd_some hF
  refine x_callVi C X (k := 0) xv_X11_283 (rfl : xk 0 = 11) rfl rfl (by decide) (kX11_nextOf O.1.1 C.2.2.2.2.1 N x4 x2 x3 S q1 hq1) (Nat.le_of_ble_eq_true rfl) (Nat.le_of_ble_eq_true rfl) (Nat.le_of_ble_eq_true rfl) (Nat.le_of_ble_eq_true rfl) rfl hl.1 rfl (Nat.le_of_ble_eq_true rfl) dX11_together_38 (fun H locs X => ?_)
  refine lv_istore_n (lv' := [(2, .int q1.1), (0, .ref (g 0)), (1, .int x1), (3, .int x3), (4, .int x4)]) C.1.1 C.1.2.1 dX11_together_41 rfl hl (by decide) rfl (fun ls hl => ?_)
  refine lv_iload_n C.1.1 C.1.2.1 dX11_together_42 rfl (lv_at hl 0 rfl) ?_
  refine lv_iconst (v := (-1)) C.1.1 C.1.2.1 dX11_together_43 (by decide) ?_
  refine lv_icmp_ne (tgt := 49) C.1.1 C.1.2.1 dX11_together_44 (by decide) (fun h_z => ?_) (fun h_z => ?_)
  · rw [if_neg h_z] at hF
    exact bX11_together_49 C O Tb K12 X (lv_sub hl [1, 2, 0, 3, 4] rfl) hF
  · rw [if_pos h_z] at hF
    exact bX11_together_47 C O Tb X (lv_sub hl [] rfl) hF
noncomputable def fX11_together_b24 (N : Nat) (r12 : Int32 → Int32 → Int32 → Int32 → gS → Option (tR)) (x1 : Int32) (x2 : Int32) (x3 : Int32) (x4 : Int32) (S : gS) : Option (tR) := bnd (fX11_isOneOf N x1 x4 S) fun q1 => (if q1.1 = 0 then fX11_together_b64 N r12 x1 x2 x3 x4 q1.2 else fX11_together_b33 N r12 x1 x2 x3 x4 q1.2)
theorem bX11_together_24 {N : Nat} {r12 : Int32 → Int32 → Int32 → Int32 → gS → Option (tR)} {x1 : Int32} {x2 : Int32} {x3 : Int32} {x4 : Int32} {S : gS} {H : Heap} {locs : List Loc} {ls : Array Slot} {o : tR} (C : gC p s m args meth c cX11_together 5 RX11 ((some .int)) D (xtys cI cB cZ cQ) xord g Am) (O : tO l g cI cB cZ cQ Am aK aV) (Tb : ∀ x ∈ c.exceptionTable.toList, False) (K12 : ∀ (x1 : Int32) (x2 : Int32) (x3 : Int32) (x4 : Int32) (S : gS) (H : Heap) (locs : List Loc) (ls : Array Slot), gX D (xcell g cI cB cZ cQ) xord g S s H locs → lv_has ls 5 [(0, .ref (g 0)), (1, .int x1), (2, .int x2), (3, .int x3), (4, .int x4)] → r12 x1 x2 x3 x4 S = some o → W p l e (rmx 7 1) s m args below meth c H locs 1 6 (gEX below args s D (xtys cI cB cZ cQ) (xcell g cI cB cZ cQ) xord g 1 false o) (F0 m 12 ls [])) (X : gX D (xcell g cI cB cZ cQ) xord g S s H locs) (hl : lv_has ls 5 [(0, .ref (g 0)), (1, .int x1), (2, .int x2), (3, .int x3), (4, .int x4)]) (hF : fX11_together_b24 N r12 x1 x2 x3 x4 S = some o) : W p l e (rmx 7 1) s m args below meth c H locs 1 6 (gEX below args s D (xtys cI cB cZ cQ) (xcell g cI cB cZ cQ) xord g 1 false o) (F0 m 24 ls []) := by
  unfold fX11_together_b24 at hF
  refine lv_iload_n C.1.1 C.1.2.1 dX11_together_24 rfl (lv_at hl 1 rfl) ?_
  refine lv_iload C.1.1 C.1.2.1 dX11_together_25 (lv_at hl 4 rfl) ?_
  obtain ⟨q1, hq1, hF⟩ := bnd_some hF
  refine g_callSi C X xv_X11_279 (kX11_isOneOf O.1.1 C.2.2.2.2.1 N x1 x4 S q1 hq1) (Nat.le_of_ble_eq_true rfl) (Nat.le_of_ble_eq_true rfl) (Nat.le_of_ble_eq_true rfl) (Nat.le_of_ble_eq_true rfl) rfl hl.1 rfl (Nat.le_of_ble_eq_true rfl) dX11_together_27 (fun H locs X => ?_)
  refine lv_if_eq (tgt := 64) C.1.1 C.1.2.1 dX11_together_30 (by decide) (fun h_z => ?_) (fun h_z => ?_)
  · rw [if_pos h_z] at hF
    exact bX11_together_64 C O Tb K12 X (lv_sub hl [0, 1, 2, 3, 4] rfl) hF
  · rw [if_neg h_z] at hF
    exact bX11_together_33 C O Tb K12 X (lv_sub hl [0, 1, 2, 3, 4] rfl) hF
noncomputable def fX11_together_b12 (N : Nat) (r12 : Int32 → Int32 → Int32 → Int32 → gS → Option (tR)) (x1 : Int32) (x2 : Int32) (x3 : Int32) (x4 : Int32) (S : gS) : Option (tR) := lt (xtw S) fun T1 => (if (S T1 0) ≤ x4 then fX11_together_b70 N x2 S else fX11_together_b24 N r12 x1 x2 x3 x4 S)
theorem bX11_together_12 {N : Nat} {r12 : Int32 → Int32 → Int32 → Int32 → gS → Option (tR)} {x1 : Int32} {x2 : Int32} {x3 : Int32} {x4 : Int32} {S : gS} {H : Heap} {locs : List Loc} {ls : Array Slot} {o : tR} (C : gC p s m args meth c cX11_together 5 RX11 ((some .int)) D (xtys cI cB cZ cQ) xord g Am) (O : tO l g cI cB cZ cQ Am aK aV) (Tb : ∀ x ∈ c.exceptionTable.toList, False) (K12 : ∀ (x1 : Int32) (x2 : Int32) (x3 : Int32) (x4 : Int32) (S : gS) (H : Heap) (locs : List Loc) (ls : Array Slot), gX D (xcell g cI cB cZ cQ) xord g S s H locs → lv_has ls 5 [(0, .ref (g 0)), (1, .int x1), (2, .int x2), (3, .int x3), (4, .int x4)] → r12 x1 x2 x3 x4 S = some o → W p l e (rmx 7 1) s m args below meth c H locs 1 6 (gEX below args s D (xtys cI cB cZ cQ) (xcell g cI cB cZ cQ) xord g 1 false o) (F0 m 12 ls [])) (X : gX D (xcell g cI cB cZ cQ) xord g S s H locs) (hl : lv_has ls 5 [(0, .ref (g 0)), (1, .int x1), (2, .int x2), (3, .int x3), (4, .int x4)]) (hF : fX11_together_b12 N r12 x1 x2 x3 x4 S = some o) : W p l e (rmx 7 1) s m args below meth c H locs 1 6 (gEX below args s D (xtys cI cB cZ cQ) (xcell g cI cB cZ cQ) xord g 1 false o) (F0 m 12 ls []) := by
  unfold fX11_together_b12 at hF
  refine lv_iload C.1.1 C.1.2.1 dX11_together_12 (lv_at hl 4 rfl) ?_
  refine lv_aload_n C.1.1 C.1.2.1 dX11_together_14 rfl (lv_at hl 0 rfl) ?_
  obtain ⟨T1, eT1, hF⟩ := lt_some hF
  have hk_T1 := xtw_k eT1
  refine xg_X11_57 C O.1.1 X (T := T1) eT1 (k := 0) rfl dX11_together_15 ?_
  refine xg_X11_108 C O.1.1 X (k := T1) hk_T1 dX11_together_18 ?_
  refine lv_icmp_ge (tgt := 70) C.1.1 C.1.2.1 dX11_together_21 (by decide) (fun h_z => ?_) (fun h_z => ?_)
  · rw [if_pos h_z] at hF
    exact bX11_together_70 C O Tb X (lv_sub hl [2] rfl) hF
  · rw [if_neg h_z] at hF
    exact bX11_together_24 C O Tb K12 X (lv_sub hl [0, 1, 2, 3, 4] rfl) hF
noncomputable def fX11_together_h12 (N : Nat) : Nat → Int32 → Int32 → Int32 → Int32 → gS → Option (tR)
  | 0, _, _, _, _, _ => none
  | n + 1, x1, x2, x3, x4, S => fX11_together_b12 N (fX11_together_h12 N n) x1 x2 x3 x4 S
theorem hX11_together_12 {N : Nat} {o : tR} (C : gC p s m args meth c cX11_together 5 RX11 ((some .int)) D (xtys cI cB cZ cQ) xord g Am) (O : tO l g cI cB cZ cQ Am aK aV) (Tb : ∀ x ∈ c.exceptionTable.toList, False) : ∀ (n : Nat) (x1 : Int32) (x2 : Int32) (x3 : Int32) (x4 : Int32) (S : gS) (H : Heap) (locs : List Loc) (ls : Array Slot), gX D (xcell g cI cB cZ cQ) xord g S s H locs → lv_has ls 5 [(0, .ref (g 0)), (1, .int x1), (2, .int x2), (3, .int x3), (4, .int x4)] → fX11_together_h12 N n x1 x2 x3 x4 S = some o → W p l e (rmx 7 1) s m args below meth c H locs 1 6 (gEX below args s D (xtys cI cB cZ cQ) (xcell g cI cB cZ cQ) xord g 1 false o) (F0 m 12 ls []) := by
  intro n
  induction n with
  | zero =>
    intro x1 x2 x3 x4 S H locs ls X hl hF
    exact absurd (show (none : Option (tR)) = some o from hF) (by simp)
  | succ n ih =>
    intro x1 x2 x3 x4 S H locs ls X hl hF
    have hF : fX11_together_b12 N (fX11_together_h12 N n) x1 x2 x3 x4 S = some o := hF
    exact bX11_together_12 C O Tb ih X hl hF
noncomputable def fX11_together_b0 (N : Nat) (x1 : Int32) (S : gS) : Option (tR) := bnx (fX11_needGrottoes N x1 S) fun q1 => (fX11_together_h12 N N x1 1 1 0 q1.2.2)
theorem bX11_together_0 {N : Nat} {x1 : Int32} {S : gS} {H : Heap} {locs : List Loc} {ls : Array Slot} {o : tR} (C : gC p s m args meth c cX11_together 5 RX11 ((some .int)) D (xtys cI cB cZ cQ) xord g Am) (O : tO l g cI cB cZ cQ Am aK aV) (Tb : ∀ x ∈ c.exceptionTable.toList, False) (X : gX D (xcell g cI cB cZ cQ) xord g S s H locs) (hl : lv_has ls 5 [(0, .ref (g 0)), (1, .int x1)]) (hF : fX11_together_b0 N x1 S = some o) : W p l e (rmx 7 1) s m args below meth c H locs 0 0 (gEX below args s D (xtys cI cB cZ cQ) (xcell g cI cB cZ cQ) xord g 1 false o) (F0 m 0 ls []) := by
  unfold fX11_together_b0 at hF
  refine lv_aload_n C.1.1 C.1.2.1 dX11_together_0 rfl (lv_at hl 0 rfl) ?_
  refine lv_iload_n C.1.1 C.1.2.1 dX11_together_1 rfl (lv_at hl 1 rfl) ?_
  rcases (bnx_some hF).symm with ⟨q1, hq1, zq1, eo⟩ | ⟨q1, hq1, zq1, hF⟩
  · subst eo
    exact t_thr (x_preT C X xv_X11_276 rfl (kX11_needGrottoes O C.2.2.2.2.1 N x1 S q1 hq1) (Nat.le_of_ble_eq_true rfl) (Nat.le_of_ble_eq_true rfl) (Nat.le_of_ble_eq_true rfl) (Nat.le_of_ble_eq_true rfl) rfl hl.1 rfl (Nat.le_of_ble_eq_true rfl) dX11_together_2) zq1 C Tb X (by decide) (by decide)
  refine t_okv (x_preT C X xv_X11_276 rfl (kX11_needGrottoes O C.2.2.2.2.1 N x1 S q1 hq1) (Nat.le_of_ble_eq_true rfl) (Nat.le_of_ble_eq_true rfl) (Nat.le_of_ble_eq_true rfl) (Nat.le_of_ble_eq_true rfl) rfl hl.1 rfl (Nat.le_of_ble_eq_true rfl) dX11_together_2) zq1 X (fun H locs X => ?_)
  refine W.widen (k := 1) (n := 6) (by decide) (by decide) ?_
  refine lv_iconst (v := 1) C.1.1 C.1.2.1 dX11_together_5 (by decide) ?_
  refine lv_istore_n (lv' := [(2, .int 1), (0, .ref (g 0)), (1, .int x1)]) C.1.1 C.1.2.1 dX11_together_6 rfl hl (by decide) rfl (fun ls hl => ?_)
  refine lv_iconst (v := 1) C.1.1 C.1.2.1 dX11_together_7 (by decide) ?_
  refine lv_istore_n (lv' := [(3, .int 1), (2, .int 1), (0, .ref (g 0)), (1, .int x1)]) C.1.1 C.1.2.1 dX11_together_8 rfl hl (by decide) rfl (fun ls hl => ?_)
  refine lv_iconst (v := 0) C.1.1 C.1.2.1 dX11_together_9 (by decide) ?_
  refine lv_istore (lv' := [(4, .int 0), (3, .int 1), (2, .int 1), (0, .ref (g 0)), (1, .int x1)]) C.1.1 C.1.2.1 dX11_together_10 hl (by decide) rfl (fun ls hl => ?_)
  exact hX11_together_12 C O Tb N _ _ _ _ _ _ _ _ X (lv_sub hl [3, 4, 2, 1, 0] rfl) hF
noncomputable def fX11_together (N : Nat) (x1 : Int32) (S : gS) : Option (tR) := fX11_together_b0 N x1 S
theorem kX11_together {l : Launch} {D : va_G} {g : Nat → Nat} {cI cB cZ cQ : ClassId} {Am : (Nat → Prop) → State → Heap → Prop} {aK aV : Nat → Nat} (O : tO l g cI cB cZ cQ Am aK aV) (P : gAm Am) (N : Nat) (x1 : Int32) (S : gS) (o : tR) (hF : fX11_together N x1 S = some o) : gN l yX11_together cX11_together 5 ((some .int)) 7 1 D (xtys cI cB cZ cQ) (xcell g cI cB cZ cQ) xord g Am [.ref (g 0), .int x1] S false o :=
  gN_of P (by decide) (Nat.le_of_ble_eq_true rfl) (fun p e s m args below meth c ls C Tb X hl => bX11_together_0 C O Tb X (lv_sub hl [0, 1] rfl) hF)
-- X11.rhythm
noncomputable def fX11_rhythm_b48 (N : Nat) (x2 : Int32) (S : gS) : Option (tR) := some (0, x2, S)
theorem bX11_rhythm_48 {N : Nat} {x2 : Int32} {S : gS} {H : Heap} {locs : List Loc} {ls : Array Slot} {o : tR} (C : gC p s m args meth c cX11_rhythm 4 RX11 ((some .int)) D (xtys cI cB cZ cQ) xord g Am) (O : tO l g cI cB cZ cQ Am aK aV) (Tb : ∀ x ∈ c.exceptionTable.toList, False) (X : gX D (xcell g cI cB cZ cQ) xord g S s H locs) (hl : lv_has ls 4 [(2, .int x2)]) (hF : fX11_rhythm_b48 N x2 S = some o) : W p l e (rmx 7 1) s m args below meth c H locs 1 6 (gEX below args s D (xtys cI cB cZ cQ) (xcell g cI cB cZ cQ) xord g 1 false o) (F0 m 48 ls []) := by
  unfold fX11_rhythm_b48 at hF
  refine lv_iload_n C.1.1 C.1.2.1 dX11_rhythm_48 rfl (lv_at hl 0 rfl) ?_
  cases hF
  exact t_iret C X (by decide) (by decide) dX11_rhythm_49
noncomputable def fX11_rhythm_b42 (N : Nat) (r9 : Int32 → Int32 → Int32 → gS → Option (tR)) (x1 : Int32) (x2 : Int32) (x3 : Int32) (S : gS) : Option (tR) := r9 x1 x2 ((x3 + 1 : Int32)) S
theorem bX11_rhythm_42 {N : Nat} {r9 : Int32 → Int32 → Int32 → gS → Option (tR)} {x1 : Int32} {x2 : Int32} {x3 : Int32} {S : gS} {H : Heap} {locs : List Loc} {ls : Array Slot} {o : tR} (C : gC p s m args meth c cX11_rhythm 4 RX11 ((some .int)) D (xtys cI cB cZ cQ) xord g Am) (O : tO l g cI cB cZ cQ Am aK aV) (Tb : ∀ x ∈ c.exceptionTable.toList, False) (K9 : ∀ (x1 : Int32) (x2 : Int32) (x3 : Int32) (S : gS) (H : Heap) (locs : List Loc) (ls : Array Slot), gX D (xcell g cI cB cZ cQ) xord g S s H locs → lv_has ls 4 [(0, .ref (g 0)), (1, .int x1), (2, .int x2), (3, .int x3)] → r9 x1 x2 x3 S = some o → W p l e (rmx 7 1) s m args below meth c H locs 1 6 (gEX below args s D (xtys cI cB cZ cQ) (xcell g cI cB cZ cQ) xord g 1 false o) (F0 m 9 ls [])) (X : gX D (xcell g cI cB cZ cQ) xord g S s H locs) (hl : lv_has ls 4 [(0, .ref (g 0)), (1, .int x1), (2, .int x2), (3, .int x3)]) (hF : fX11_rhythm_b42 N r9 x1 x2 x3 S = some o) : W p l e (rmx 7 1) s m args below meth c H locs 1 6 (gEX below args s D (xtys cI cB cZ cQ) (xcell g cI cB cZ cQ) xord g 1 false o) (F0 m 42 ls []) := by
  unfold fX11_rhythm_b42 at hF
  refine lv_iinc (v := (x3 + 1 : Int32)) (lv' := [(3, .int ((x3 + 1 : Int32))), (0, .ref (g 0)), (1, .int x1), (2, .int x2)]) C.1.1 C.1.2.1 dX11_rhythm_42 hl (k := 3) rfl rfl (by decide) rfl (fun ls hl => ?_)
  refine lv_goto (tgt := 9) C.1.1 C.1.2.1 dX11_rhythm_45 (by decide) ?_
  exact K9 _ _ _ _ _ _ _ X (lv_sub hl [1, 2, 3, 0] rfl) hF
noncomputable def fX11_rhythm_b28 (N : Nat) (r9 : Int32 → Int32 → Int32 → gS → Option (tR)) (x1 : Int32) (x2 : Int32) (x3 : Int32) (S : gS) : Option (tR) := lt (xtw S) fun T1 => (chk (inb x3 8) (bnd (fX11_leastCommon N x2 (S (T1 + 1) (Int32.toNatClampNeg x3)) S) fun q1 => (fX11_rhythm_b42 N r9 x1 q1.1 x3 q1.2)))
theorem bX11_rhythm_28 {N : Nat} {r9 : Int32 → Int32 → Int32 → gS → Option (tR)} {x1 : Int32} {x2 : Int32} {x3 : Int32} {S : gS} {H : Heap} {locs : List Loc} {ls : Array Slot} {o : tR} (C : gC p s m args meth c cX11_rhythm 4 RX11 ((some .int)) D (xtys cI cB cZ cQ) xord g Am) (O : tO l g cI cB cZ cQ Am aK aV) (Tb : ∀ x ∈ c.exceptionTable.toList, False) (K9 : ∀ (x1 : Int32) (x2 : Int32) (x3 : Int32) (S : gS) (H : Heap) (locs : List Loc) (ls : Array Slot), gX D (xcell g cI cB cZ cQ) xord g S s H locs → lv_has ls 4 [(0, .ref (g 0)), (1, .int x1), (2, .int x2), (3, .int x3)] → r9 x1 x2 x3 S = some o → W p l e (rmx 7 1) s m args below meth c H locs 1 6 (gEX below args s D (xtys cI cB cZ cQ) (xcell g cI cB cZ cQ) xord g 1 false o) (F0 m 9 ls [])) (X : gX D (xcell g cI cB cZ cQ) xord g S s H locs) (hl : lv_has ls 4 [(0, .ref (g 0)), (1, .int x1), (2, .int x2), (3, .int x3)]) (hF : fX11_rhythm_b28 N r9 x1 x2 x3 S = some o) : W p l e (rmx 7 1) s m args below meth c H locs 1 6 (gEX below args s D (xtys cI cB cZ cQ) (xcell g cI cB cZ cQ) xord g 1 false o) (F0 m 28 ls []) := by
  unfold fX11_rhythm_b28 at hF
  refine lv_iload_n C.1.1 C.1.2.1 dX11_rhythm_28 rfl (lv_at hl 2 rfl) ?_
  refine lv_aload_n C.1.1 C.1.2.1 dX11_rhythm_29 rfl (lv_at hl 0 rfl) ?_
  obtain ⟨T1, eT1, hF⟩ := lt_some hF
  have hk_T1 := xtw_k eT1
  refine xg_X11_57 C O.1.1 X (T := T1) eT1 (k := 0) rfl dX11_rhythm_30 ?_
  refine xg_X11_165 C O.1.1 X (k := T1) hk_T1 (j := T1 + 1) rfl dX11_rhythm_33 ?_
  refine lv_iload_n C.1.1 C.1.2.1 dX11_rhythm_36 rfl (lv_at hl 3 rfl) ?_
  obtain ⟨h_1, hF⟩ := chk_some hF
  refine x_rI C X (k := T1 + 1) (xs_9_1 hk_T1).1 (n := 8) (xs_9_1 hk_T1).2  (inb_vp h_1) rfl dX11_rhythm_37 ?_
  obtain ⟨q1, hq1, hF⟩ := bnd_some hF
  refine g_callSi C X xv_X11_287 (kX11_leastCommon O.1.1 C.2.2.2.2.1 N x2 (S (T1 + 1) (Int32.toNatClampNeg x3)) S q1 hq1) (Nat.le_of_ble_eq_true rfl) (Nat.le_of_ble_eq_true rfl) (Nat.le_of_ble_eq_true rfl) (Nat.le_of_ble_eq_true rfl) rfl hl.1 rfl (Nat.le_of_ble_eq_true rfl) dX11_rhythm_38 (fun H locs X => ?_)
  refine lv_istore_n (lv' := [(2, .int q1.1), (0, .ref (g 0)), (1, .int x1), (3, .int x3)]) C.1.1 C.1.2.1 dX11_rhythm_41 rfl hl (by decide) rfl (fun ls hl => ?_)
  exact bX11_rhythm_42 C O Tb K9 X (lv_sub hl [1, 2, 0, 3] rfl) hF
noncomputable def fX11_rhythm_b20 (N : Nat) (r9 : Int32 → Int32 → Int32 → gS → Option (tR)) (x1 : Int32) (x2 : Int32) (x3 : Int32) (S : gS) : Option (tR) := bnd (fX11_isOneOf N x1 x3 S) fun q1 => (if q1.1 = 0 then fX11_rhythm_b42 N r9 x1 x2 x3 q1.2 else fX11_rhythm_b28 N r9 x1 x2 x3 q1.2)
theorem bX11_rhythm_20 {N : Nat} {r9 : Int32 → Int32 → Int32 → gS → Option (tR)} {x1 : Int32} {x2 : Int32} {x3 : Int32} {S : gS} {H : Heap} {locs : List Loc} {ls : Array Slot} {o : tR} (C : gC p s m args meth c cX11_rhythm 4 RX11 ((some .int)) D (xtys cI cB cZ cQ) xord g Am) (O : tO l g cI cB cZ cQ Am aK aV) (Tb : ∀ x ∈ c.exceptionTable.toList, False) (K9 : ∀ (x1 : Int32) (x2 : Int32) (x3 : Int32) (S : gS) (H : Heap) (locs : List Loc) (ls : Array Slot), gX D (xcell g cI cB cZ cQ) xord g S s H locs → lv_has ls 4 [(0, .ref (g 0)), (1, .int x1), (2, .int x2), (3, .int x3)] → r9 x1 x2 x3 S = some o → W p l e (rmx 7 1) s m args below meth c H locs 1 6 (gEX below args s D (xtys cI cB cZ cQ) (xcell g cI cB cZ cQ) xord g 1 false o) (F0 m 9 ls [])) (X : gX D (xcell g cI cB cZ cQ) xord g S s H locs) (hl : lv_has ls 4 [(0, .ref (g 0)), (1, .int x1), (2, .int x2), (3, .int x3)]) (hF : fX11_rhythm_b20 N r9 x1 x2 x3 S = some o) : W p l e (rmx 7 1) s m args below meth c H locs 1 6 (gEX below args s D (xtys cI cB cZ cQ) (xcell g cI cB cZ cQ) xord g 1 false o) (F0 m 20 ls []) := by
  unfold fX11_rhythm_b20 at hF
  refine lv_iload_n C.1.1 C.1.2.1 dX11_rhythm_20 rfl (lv_at hl 1 rfl) ?_
  refine lv_iload_n C.1.1 C.1.2.1 dX11_rhythm_21 rfl (lv_at hl 3 rfl) ?_
  obtain ⟨q1, hq1, hF⟩ := bnd_some hF
  refine g_callSi C X xv_X11_279 (kX11_isOneOf O.1.1 C.2.2.2.2.1 N x1 x3 S q1 hq1) (Nat.le_of_ble_eq_true rfl) (Nat.le_of_ble_eq_true rfl) (Nat.le_of_ble_eq_true rfl) (Nat.le_of_ble_eq_true rfl) rfl hl.1 rfl (Nat.le_of_ble_eq_true rfl) dX11_rhythm_22 (fun H locs X => ?_)
  refine lv_if_eq (tgt := 42) C.1.1 C.1.2.1 dX11_rhythm_25 (by decide) (fun h_z => ?_) (fun h_z => ?_)
  · rw [if_pos h_z] at hF
    exact bX11_rhythm_42 C O Tb K9 X (lv_sub hl [0, 1, 2, 3] rfl) hF
  · rw [if_neg h_z] at hF
    exact bX11_rhythm_28 C O Tb K9 X (lv_sub hl [0, 1, 2, 3] rfl) hF
noncomputable def fX11_rhythm_b9 (N : Nat) (r9 : Int32 → Int32 → Int32 → gS → Option (tR)) (x1 : Int32) (x2 : Int32) (x3 : Int32) (S : gS) : Option (tR) := lt (xtw S) fun T1 => (if (S T1 0) ≤ x3 then fX11_rhythm_b48 N x2 S else fX11_rhythm_b20 N r9 x1 x2 x3 S)
theorem bX11_rhythm_9 {N : Nat} {r9 : Int32 → Int32 → Int32 → gS → Option (tR)} {x1 : Int32} {x2 : Int32} {x3 : Int32} {S : gS} {H : Heap} {locs : List Loc} {ls : Array Slot} {o : tR} (C : gC p s m args meth c cX11_rhythm 4 RX11 ((some .int)) D (xtys cI cB cZ cQ) xord g Am) (O : tO l g cI cB cZ cQ Am aK aV) (Tb : ∀ x ∈ c.exceptionTable.toList, False) (K9 : ∀ (x1 : Int32) (x2 : Int32) (x3 : Int32) (S : gS) (H : Heap) (locs : List Loc) (ls : Array Slot), gX D (xcell g cI cB cZ cQ) xord g S s H locs → lv_has ls 4 [(0, .ref (g 0)), (1, .int x1), (2, .int x2), (3, .int x3)] → r9 x1 x2 x3 S = some o → W p l e (rmx 7 1) s m args below meth c H locs 1 6 (gEX below args s D (xtys cI cB cZ cQ) (xcell g cI cB cZ cQ) xord g 1 false o) (F0 m 9 ls [])) (X : gX D (xcell g cI cB cZ cQ) xord g S s H locs) (hl : lv_has ls 4 [(0, .ref (g 0)), (1, .int x1), (2, .int x2), (3, .int x3)]) (hF : fX11_rhythm_b9 N r9 x1 x2 x3 S = some o) : W p l e (rmx 7 1) s m args below meth c H locs 1 6 (gEX below args s D (xtys cI cB cZ cQ) (xcell g cI cB cZ cQ) xord g 1 false o) (F0 m 9 ls []) := by
  unfold fX11_rhythm_b9 at hF
  refine lv_iload_n C.1.1 C.1.2.1 dX11_rhythm_9 rfl (lv_at hl 3 rfl) ?_
  refine lv_aload_n C.1.1 C.1.2.1 dX11_rhythm_10 rfl (lv_at hl 0 rfl) ?_
  obtain ⟨T1, eT1, hF⟩ := lt_some hF
  have hk_T1 := xtw_k eT1
  refine xg_X11_57 C O.1.1 X (T := T1) eT1 (k := 0) rfl dX11_rhythm_11 ?_
  refine xg_X11_108 C O.1.1 X (k := T1) hk_T1 dX11_rhythm_14 ?_
  refine lv_icmp_ge (tgt := 48) C.1.1 C.1.2.1 dX11_rhythm_17 (by decide) (fun h_z => ?_) (fun h_z => ?_)
  · rw [if_pos h_z] at hF
    exact bX11_rhythm_48 C O Tb X (lv_sub hl [2] rfl) hF
  · rw [if_neg h_z] at hF
    exact bX11_rhythm_20 C O Tb K9 X (lv_sub hl [0, 1, 2, 3] rfl) hF
noncomputable def fX11_rhythm_h9 (N : Nat) : Nat → Int32 → Int32 → Int32 → gS → Option (tR)
  | 0, _, _, _, _ => none
  | n + 1, x1, x2, x3, S => fX11_rhythm_b9 N (fX11_rhythm_h9 N n) x1 x2 x3 S
theorem hX11_rhythm_9 {N : Nat} {o : tR} (C : gC p s m args meth c cX11_rhythm 4 RX11 ((some .int)) D (xtys cI cB cZ cQ) xord g Am) (O : tO l g cI cB cZ cQ Am aK aV) (Tb : ∀ x ∈ c.exceptionTable.toList, False) : ∀ (n : Nat) (x1 : Int32) (x2 : Int32) (x3 : Int32) (S : gS) (H : Heap) (locs : List Loc) (ls : Array Slot), gX D (xcell g cI cB cZ cQ) xord g S s H locs → lv_has ls 4 [(0, .ref (g 0)), (1, .int x1), (2, .int x2), (3, .int x3)] → fX11_rhythm_h9 N n x1 x2 x3 S = some o → W p l e (rmx 7 1) s m args below meth c H locs 1 6 (gEX below args s D (xtys cI cB cZ cQ) (xcell g cI cB cZ cQ) xord g 1 false o) (F0 m 9 ls []) := by
  intro n
  induction n with
  | zero =>
    intro x1 x2 x3 S H locs ls X hl hF
    exact absurd (show (none : Option (tR)) = some o from hF) (by simp)
  | succ n ih =>
    intro x1 x2 x3 S H locs ls X hl hF
    have hF : fX11_rhythm_b9 N (fX11_rhythm_h9 N n) x1 x2 x3 S = some o := hF
    exact bX11_rhythm_9 C O Tb ih X hl hF
noncomputable def fX11_rhythm_b0 (N : Nat) (x1 : Int32) (S : gS) : Option (tR) := bnx (fX11_needGrottoes N x1 S) fun q1 => (fX11_rhythm_h9 N N x1 1 0 q1.2.2)
theorem bX11_rhythm_0 {N : Nat} {x1 : Int32} {S : gS} {H : Heap} {locs : List Loc} {ls : Array Slot} {o : tR} (C : gC p s m args meth c cX11_rhythm 4 RX11 ((some .int)) D (xtys cI cB cZ cQ) xord g Am) (O : tO l g cI cB cZ cQ Am aK aV) (Tb : ∀ x ∈ c.exceptionTable.toList, False) (X : gX D (xcell g cI cB cZ cQ) xord g S s H locs) (hl : lv_has ls 4 [(0, .ref (g 0)), (1, .int x1)]) (hF : fX11_rhythm_b0 N x1 S = some o) : W p l e (rmx 7 1) s m args below meth c H locs 0 0 (gEX below args s D (xtys cI cB cZ cQ) (xcell g cI cB cZ cQ) xord g 1 false o) (F0 m 0 ls []) := by
  unfold fX11_rhythm_b0 at hF
  refine lv_aload_n C.1.1 C.1.2.1 dX11_rhythm_0 rfl (lv_at hl 0 rfl) ?_
  refine lv_iload_n C.1.1 C.1.2.1 dX11_rhythm_1 rfl (lv_at hl 1 rfl) ?_
  rcases (bnx_some hF).symm with ⟨q1, hq1, zq1, eo⟩ | ⟨q1, hq1, zq1, hF⟩
  · subst eo
    exact t_thr (x_preT C X xv_X11_276 rfl (kX11_needGrottoes O C.2.2.2.2.1 N x1 S q1 hq1) (Nat.le_of_ble_eq_true rfl) (Nat.le_of_ble_eq_true rfl) (Nat.le_of_ble_eq_true rfl) (Nat.le_of_ble_eq_true rfl) rfl hl.1 rfl (Nat.le_of_ble_eq_true rfl) dX11_rhythm_2) zq1 C Tb X (by decide) (by decide)
  refine t_okv (x_preT C X xv_X11_276 rfl (kX11_needGrottoes O C.2.2.2.2.1 N x1 S q1 hq1) (Nat.le_of_ble_eq_true rfl) (Nat.le_of_ble_eq_true rfl) (Nat.le_of_ble_eq_true rfl) (Nat.le_of_ble_eq_true rfl) rfl hl.1 rfl (Nat.le_of_ble_eq_true rfl) dX11_rhythm_2) zq1 X (fun H locs X => ?_)
  refine W.widen (k := 1) (n := 6) (by decide) (by decide) ?_
  refine lv_iconst (v := 1) C.1.1 C.1.2.1 dX11_rhythm_5 (by decide) ?_
  refine lv_istore_n (lv' := [(2, .int 1), (0, .ref (g 0)), (1, .int x1)]) C.1.1 C.1.2.1 dX11_rhythm_6 rfl hl (by decide) rfl (fun ls hl => ?_)
  refine lv_iconst (v := 0) C.1.1 C.1.2.1 dX11_rhythm_7 (by decide) ?_
  refine lv_istore_n (lv' := [(3, .int 0), (2, .int 1), (0, .ref (g 0)), (1, .int x1)]) C.1.1 C.1.2.1 dX11_rhythm_8 rfl hl (by decide) rfl (fun ls hl => ?_)
  exact hX11_rhythm_9 C O Tb N _ _ _ _ _ _ _ X (lv_sub hl [2, 3, 1, 0] rfl) hF
noncomputable def fX11_rhythm (N : Nat) (x1 : Int32) (S : gS) : Option (tR) := fX11_rhythm_b0 N x1 S
theorem kX11_rhythm {l : Launch} {D : va_G} {g : Nat → Nat} {cI cB cZ cQ : ClassId} {Am : (Nat → Prop) → State → Heap → Prop} {aK aV : Nat → Nat} (O : tO l g cI cB cZ cQ Am aK aV) (P : gAm Am) (N : Nat) (x1 : Int32) (S : gS) (o : tR) (hF : fX11_rhythm N x1 S = some o) : gN l yX11_rhythm cX11_rhythm 4 ((some .int)) 7 1 D (xtys cI cB cZ cQ) (xcell g cI cB cZ cQ) xord g Am [.ref (g 0), .int x1] S false o :=
  gN_of P (by decide) (Nat.le_of_ble_eq_true rfl) (fun p e s m args below meth c ls C Tb X hl => bX11_rhythm_0 C O Tb X (lv_sub hl [0, 1] rfl) hF)
-- X11.often
noncomputable def fX11_often_b42 (N : Nat) (x3 : Int32) (S : gS) : Option (tR) := some (0, x3, S)
theorem bX11_often_42 {N : Nat} {x3 : Int32} {S : gS} {H : Heap} {locs : List Loc} {ls : Array Slot} {o : tR} (C : gC p s m args meth c cX11_often 5 RX11 ((some .int)) D (xtys cI cB cZ cQ) xord g Am) (O : tO l g cI cB cZ cQ Am aK aV) (Tb : ∀ x ∈ c.exceptionTable.toList, False) (X : gX D (xcell g cI cB cZ cQ) xord g S s H locs) (hl : lv_has ls 5 [(3, .int x3)]) (hF : fX11_often_b42 N x3 S = some o) : W p l e (rmx 7 2) s m args below meth c H locs 2 12 (gEX below args s D (xtys cI cB cZ cQ) (xcell g cI cB cZ cQ) xord g 2 false o) (F0 m 42 ls []) := by
  unfold fX11_often_b42 at hF
  refine lv_iload_n C.1.1 C.1.2.1 dX11_often_42 rfl (lv_at hl 0 rfl) ?_
  cases hF
  exact t_iret C X (by decide) (by decide) dX11_often_43
noncomputable def fX11_often_b36 (N : Nat) (r17 : Int32 → Int32 → Int32 → Int32 → gS → Option (tR)) (x1 : Int32) (x2 : Int32) (x3 : Int32) (x4 : Int32) (S : gS) : Option (tR) := r17 x1 x2 x3 ((x4 + 1 : Int32)) S
theorem bX11_often_36 {N : Nat} {r17 : Int32 → Int32 → Int32 → Int32 → gS → Option (tR)} {x1 : Int32} {x2 : Int32} {x3 : Int32} {x4 : Int32} {S : gS} {H : Heap} {locs : List Loc} {ls : Array Slot} {o : tR} (C : gC p s m args meth c cX11_often 5 RX11 ((some .int)) D (xtys cI cB cZ cQ) xord g Am) (O : tO l g cI cB cZ cQ Am aK aV) (Tb : ∀ x ∈ c.exceptionTable.toList, False) (K17 : ∀ (x1 : Int32) (x2 : Int32) (x3 : Int32) (x4 : Int32) (S : gS) (H : Heap) (locs : List Loc) (ls : Array Slot), gX D (xcell g cI cB cZ cQ) xord g S s H locs → lv_has ls 5 [(0, .ref (g 0)), (1, .int x1), (2, .int x2), (3, .int x3), (4, .int x4)] → r17 x1 x2 x3 x4 S = some o → W p l e (rmx 7 2) s m args below meth c H locs 2 12 (gEX below args s D (xtys cI cB cZ cQ) (xcell g cI cB cZ cQ) xord g 2 false o) (F0 m 17 ls [])) (X : gX D (xcell g cI cB cZ cQ) xord g S s H locs) (hl : lv_has ls 5 [(0, .ref (g 0)), (1, .int x1), (2, .int x2), (3, .int x3), (4, .int x4)]) (hF : fX11_often_b36 N r17 x1 x2 x3 x4 S = some o) : W p l e (rmx 7 2) s m args below meth c H locs 2 12 (gEX below args s D (xtys cI cB cZ cQ) (xcell g cI cB cZ cQ) xord g 2 false o) (F0 m 36 ls []) := by
  unfold fX11_often_b36 at hF
  refine lv_iinc (v := (x4 + 1 : Int32)) (lv' := [(4, .int ((x4 + 1 : Int32))), (0, .ref (g 0)), (1, .int x1), (2, .int x2), (3, .int x3)]) C.1.1 C.1.2.1 dX11_often_36 hl (k := 4) rfl rfl (by decide) rfl (fun ls hl => ?_)
  refine lv_goto (tgt := 17) C.1.1 C.1.2.1 dX11_often_39 (by decide) ?_
  exact K17 _ _ _ _ _ _ _ _ X (lv_sub hl [1, 2, 3, 4, 0] rfl) hF
noncomputable def fX11_often_b33 (N : Nat) (r17 : Int32 → Int32 → Int32 → Int32 → gS → Option (tR)) (x1 : Int32) (x2 : Int32) (x3 : Int32) (x4 : Int32) (S : gS) : Option (tR) := fX11_often_b36 N r17 x1 x2 ((x3 + 1 : Int32)) x4 S
theorem bX11_often_33 {N : Nat} {r17 : Int32 → Int32 → Int32 → Int32 → gS → Option (tR)} {x1 : Int32} {x2 : Int32} {x3 : Int32} {x4 : Int32} {S : gS} {H : Heap} {locs : List Loc} {ls : Array Slot} {o : tR} (C : gC p s m args meth c cX11_often 5 RX11 ((some .int)) D (xtys cI cB cZ cQ) xord g Am) (O : tO l g cI cB cZ cQ Am aK aV) (Tb : ∀ x ∈ c.exceptionTable.toList, False) (K17 : ∀ (x1 : Int32) (x2 : Int32) (x3 : Int32) (x4 : Int32) (S : gS) (H : Heap) (locs : List Loc) (ls : Array Slot), gX D (xcell g cI cB cZ cQ) xord g S s H locs → lv_has ls 5 [(0, .ref (g 0)), (1, .int x1), (2, .int x2), (3, .int x3), (4, .int x4)] → r17 x1 x2 x3 x4 S = some o → W p l e (rmx 7 2) s m args below meth c H locs 2 12 (gEX below args s D (xtys cI cB cZ cQ) (xcell g cI cB cZ cQ) xord g 2 false o) (F0 m 17 ls [])) (X : gX D (xcell g cI cB cZ cQ) xord g S s H locs) (hl : lv_has ls 5 [(0, .ref (g 0)), (1, .int x1), (2, .int x2), (3, .int x3), (4, .int x4)]) (hF : fX11_often_b33 N r17 x1 x2 x3 x4 S = some o) : W p l e (rmx 7 2) s m args below meth c H locs 2 12 (gEX below args s D (xtys cI cB cZ cQ) (xcell g cI cB cZ cQ) xord g 2 false o) (F0 m 33 ls []) := by
  unfold fX11_often_b33 at hF
  refine lv_iinc (v := (x3 + 1 : Int32)) (lv' := [(3, .int ((x3 + 1 : Int32))), (0, .ref (g 0)), (1, .int x1), (2, .int x2), (4, .int x4)]) C.1.1 C.1.2.1 dX11_often_33 hl (k := 3) rfl rfl (by decide) rfl (fun ls hl => ?_)
  exact bX11_often_36 C O Tb K17 X (lv_sub hl [1, 2, 3, 0, 4] rfl) hF
noncomputable def fX11_often_b23 (N : Nat) (r17 : Int32 → Int32 → Int32 → Int32 → gS → Option (tR)) (x1 : Int32) (x2 : Int32) (x3 : Int32) (x4 : Int32) (S : gS) : Option (tR) := bnd (fX11_dripsAhead N x1 x4 S) fun q1 => (if q1.1 = 0 then fX11_often_b36 N r17 x1 x2 x3 x4 q1.2 else fX11_often_b33 N r17 x1 x2 x3 x4 q1.2)
theorem bX11_often_23 {N : Nat} {r17 : Int32 → Int32 → Int32 → Int32 → gS → Option (tR)} {x1 : Int32} {x2 : Int32} {x3 : Int32} {x4 : Int32} {S : gS} {H : Heap} {locs : List Loc} {ls : Array Slot} {o : tR} (C : gC p s m args meth c cX11_often 5 RX11 ((some .int)) D (xtys cI cB cZ cQ) xord g Am) (O : tO l g cI cB cZ cQ Am aK aV) (Tb : ∀ x ∈ c.exceptionTable.toList, False) (K17 : ∀ (x1 : Int32) (x2 : Int32) (x3 : Int32) (x4 : Int32) (S : gS) (H : Heap) (locs : List Loc) (ls : Array Slot), gX D (xcell g cI cB cZ cQ) xord g S s H locs → lv_has ls 5 [(0, .ref (g 0)), (1, .int x1), (2, .int x2), (3, .int x3), (4, .int x4)] → r17 x1 x2 x3 x4 S = some o → W p l e (rmx 7 2) s m args below meth c H locs 2 12 (gEX below args s D (xtys cI cB cZ cQ) (xcell g cI cB cZ cQ) xord g 2 false o) (F0 m 17 ls [])) (X : gX D (xcell g cI cB cZ cQ) xord g S s H locs) (hl : lv_has ls 5 [(0, .ref (g 0)), (1, .int x1), (2, .int x2), (3, .int x3), (4, .int x4)]) (hF : fX11_often_b23 N r17 x1 x2 x3 x4 S = some o) : W p l e (rmx 7 2) s m args below meth c H locs 2 12 (gEX below args s D (xtys cI cB cZ cQ) (xcell g cI cB cZ cQ) xord g 2 false o) (F0 m 23 ls []) := by
  unfold fX11_often_b23 at hF
  refine lv_aload_n C.1.1 C.1.2.1 dX11_often_23 rfl (lv_at hl 0 rfl) ?_
  refine lv_iload_n C.1.1 C.1.2.1 dX11_often_24 rfl (lv_at hl 1 rfl) ?_
  refine lv_iload C.1.1 C.1.2.1 dX11_often_25 (lv_at hl 4 rfl) ?_
  obtain ⟨q1, hq1, hF⟩ := bnd_some hF
  refine x_callVi C X (k := 0) xv_X11_290 (rfl : xk 0 = 11) rfl rfl (by decide) (kX11_dripsAhead O.1.1 C.2.2.2.2.1 N x1 x4 S q1 hq1) (Nat.le_of_ble_eq_true rfl) (Nat.le_of_ble_eq_true rfl) (Nat.le_of_ble_eq_true rfl) (Nat.le_of_ble_eq_true rfl) rfl hl.1 rfl (Nat.le_of_ble_eq_true rfl) dX11_often_27 (fun H locs X => ?_)
  refine lv_if_eq (tgt := 36) C.1.1 C.1.2.1 dX11_often_30 (by decide) (fun h_z => ?_) (fun h_z => ?_)
  · rw [if_pos h_z] at hF
    exact bX11_often_36 C O Tb K17 X (lv_sub hl [0, 1, 2, 3, 4] rfl) hF
  · rw [if_neg h_z] at hF
    exact bX11_often_33 C O Tb K17 X (lv_sub hl [0, 1, 2, 3, 4] rfl) hF
noncomputable def fX11_often_b17 (N : Nat) (r17 : Int32 → Int32 → Int32 → Int32 → gS → Option (tR)) (x1 : Int32) (x2 : Int32) (x3 : Int32) (x4 : Int32) (S : gS) : Option (tR) := if x2 < x4 then fX11_often_b42 N x3 S else fX11_often_b23 N r17 x1 x2 x3 x4 S
theorem bX11_often_17 {N : Nat} {r17 : Int32 → Int32 → Int32 → Int32 → gS → Option (tR)} {x1 : Int32} {x2 : Int32} {x3 : Int32} {x4 : Int32} {S : gS} {H : Heap} {locs : List Loc} {ls : Array Slot} {o : tR} (C : gC p s m args meth c cX11_often 5 RX11 ((some .int)) D (xtys cI cB cZ cQ) xord g Am) (O : tO l g cI cB cZ cQ Am aK aV) (Tb : ∀ x ∈ c.exceptionTable.toList, False) (K17 : ∀ (x1 : Int32) (x2 : Int32) (x3 : Int32) (x4 : Int32) (S : gS) (H : Heap) (locs : List Loc) (ls : Array Slot), gX D (xcell g cI cB cZ cQ) xord g S s H locs → lv_has ls 5 [(0, .ref (g 0)), (1, .int x1), (2, .int x2), (3, .int x3), (4, .int x4)] → r17 x1 x2 x3 x4 S = some o → W p l e (rmx 7 2) s m args below meth c H locs 2 12 (gEX below args s D (xtys cI cB cZ cQ) (xcell g cI cB cZ cQ) xord g 2 false o) (F0 m 17 ls [])) (X : gX D (xcell g cI cB cZ cQ) xord g S s H locs) (hl : lv_has ls 5 [(0, .ref (g 0)), (1, .int x1), (2, .int x2), (3, .int x3), (4, .int x4)]) (hF : fX11_often_b17 N r17 x1 x2 x3 x4 S = some o) : W p l e (rmx 7 2) s m args below meth c H locs 2 12 (gEX below args s D (xtys cI cB cZ cQ) (xcell g cI cB cZ cQ) xord g 2 false o) (F0 m 17 ls []) := by
  unfold fX11_often_b17 at hF
  refine lv_iload C.1.1 C.1.2.1 dX11_often_17 (lv_at hl 4 rfl) ?_
  refine lv_iload_n C.1.1 C.1.2.1 dX11_often_19 rfl (lv_at hl 2 rfl) ?_
  refine lv_icmp_gt (tgt := 42) C.1.1 C.1.2.1 dX11_often_20 (by decide) (fun h_z => ?_) (fun h_z => ?_)
  · rw [if_pos h_z] at hF
    exact bX11_often_42 C O Tb X (lv_sub hl [3] rfl) hF
  · rw [if_neg h_z] at hF
    exact bX11_often_23 C O Tb K17 X (lv_sub hl [0, 1, 2, 3, 4] rfl) hF
noncomputable def fX11_often_h17 (N : Nat) : Nat → Int32 → Int32 → Int32 → Int32 → gS → Option (tR)
  | 0, _, _, _, _, _ => none
  | n + 1, x1, x2, x3, x4, S => fX11_often_b17 N (fX11_often_h17 N n) x1 x2 x3 x4 S
theorem hX11_often_17 {N : Nat} {o : tR} (C : gC p s m args meth c cX11_often 5 RX11 ((some .int)) D (xtys cI cB cZ cQ) xord g Am) (O : tO l g cI cB cZ cQ Am aK aV) (Tb : ∀ x ∈ c.exceptionTable.toList, False) : ∀ (n : Nat) (x1 : Int32) (x2 : Int32) (x3 : Int32) (x4 : Int32) (S : gS) (H : Heap) (locs : List Loc) (ls : Array Slot), gX D (xcell g cI cB cZ cQ) xord g S s H locs → lv_has ls 5 [(0, .ref (g 0)), (1, .int x1), (2, .int x2), (3, .int x3), (4, .int x4)] → fX11_often_h17 N n x1 x2 x3 x4 S = some o → W p l e (rmx 7 2) s m args below meth c H locs 2 12 (gEX below args s D (xtys cI cB cZ cQ) (xcell g cI cB cZ cQ) xord g 2 false o) (F0 m 17 ls []) := by
  intro n
  induction n with
  | zero =>
    intro x1 x2 x3 x4 S H locs ls X hl hF
    exact absurd (show (none : Option (tR)) = some o from hF) (by simp)
  | succ n ih =>
    intro x1 x2 x3 x4 S H locs ls X hl hF
    have hF : fX11_often_b17 N (fX11_often_h17 N n) x1 x2 x3 x4 S = some o := hF
    exact bX11_often_17 C O Tb ih X hl hF
noncomputable def fX11_often_b0 (N : Nat) (x1 : Int32) (x2 : Int32) (S : gS) : Option (tR) := bnx (fX11_needGrotto N x1 S) fun q1 => (bnx (fX11_needWithin N x2 0 60 q1.2.2) fun q2 => (fX11_often_h17 N N x1 x2 0 1 q2.2.2))
theorem bX11_often_0 {N : Nat} {x1 : Int32} {x2 : Int32} {S : gS} {H : Heap} {locs : List Loc} {ls : Array Slot} {o : tR} (C : gC p s m args meth c cX11_often 5 RX11 ((some .int)) D (xtys cI cB cZ cQ) xord g Am) (O : tO l g cI cB cZ cQ Am aK aV) (Tb : ∀ x ∈ c.exceptionTable.toList, False) (X : gX D (xcell g cI cB cZ cQ) xord g S s H locs) (hl : lv_has ls 5 [(0, .ref (g 0)), (1, .int x1), (2, .int x2)]) (hF : fX11_often_b0 N x1 x2 S = some o) : W p l e (rmx 7 2) s m args below meth c H locs 0 0 (gEX below args s D (xtys cI cB cZ cQ) (xcell g cI cB cZ cQ) xord g 2 false o) (F0 m 0 ls []) := by
  unfold fX11_often_b0 at hF
  refine lv_aload_n C.1.1 C.1.2.1 dX11_often_0 rfl (lv_at hl 0 rfl) ?_
  refine lv_iload_n C.1.1 C.1.2.1 dX11_often_1 rfl (lv_at hl 1 rfl) ?_
  rcases (bnx_some hF).symm with ⟨q1, hq1, zq1, eo⟩ | ⟨q1, hq1, zq1, hF⟩
  · subst eo
    exact t_thr (x_preT C X xv_X11_162 rfl (kX11_needGrotto O C.2.2.2.2.1 N x1 S q1 hq1) (Nat.le_of_ble_eq_true rfl) (Nat.le_of_ble_eq_true rfl) (Nat.le_of_ble_eq_true rfl) (Nat.le_of_ble_eq_true rfl) rfl hl.1 rfl (Nat.le_of_ble_eq_true rfl) dX11_often_2) zq1 C Tb X (by decide) (by decide)
  refine t_okv (x_preT C X xv_X11_162 rfl (kX11_needGrotto O C.2.2.2.2.1 N x1 S q1 hq1) (Nat.le_of_ble_eq_true rfl) (Nat.le_of_ble_eq_true rfl) (Nat.le_of_ble_eq_true rfl) (Nat.le_of_ble_eq_true rfl) rfl hl.1 rfl (Nat.le_of_ble_eq_true rfl) dX11_often_2) zq1 X (fun H locs X => ?_)
  refine W.widen (k := 1) (n := 6) (by decide) (by decide) ?_
  refine lv_iload_n C.1.1 C.1.2.1 dX11_often_5 rfl (lv_at hl 2 rfl) ?_
  refine lv_iconst (v := 0) C.1.1 C.1.2.1 dX11_often_6 (by decide) ?_
  refine lv_bipush (v := 60) C.1.1 C.1.2.1 dX11_often_7 (by decide) ?_
  rcases (bnx_some hF).symm with ⟨q2, hq2, zq2, eo⟩ | ⟨q2, hq2, zq2, hF⟩
  · subst eo
    exact t_thr (t_preS C X xv_X11_239 (kX11_needWithin O C.2.2.2.2.1 N x2 0 60 q1.2.2 q2 hq2) (Nat.le_of_ble_eq_true rfl) (Nat.le_of_ble_eq_true rfl) (Nat.le_of_ble_eq_true rfl) (Nat.le_of_ble_eq_true rfl) rfl hl.1 rfl (Nat.le_of_ble_eq_true rfl) dX11_often_9) zq2 C Tb X (by decide) (by decide)
  refine t_okv (t_preS C X xv_X11_239 (kX11_needWithin O C.2.2.2.2.1 N x2 0 60 q1.2.2 q2 hq2) (Nat.le_of_ble_eq_true rfl) (Nat.le_of_ble_eq_true rfl) (Nat.le_of_ble_eq_true rfl) (Nat.le_of_ble_eq_true rfl) rfl hl.1 rfl (Nat.le_of_ble_eq_true rfl) dX11_often_9) zq2 X (fun H locs X => ?_)
  refine W.widen (k := 2) (n := 12) (by decide) (by decide) ?_
  refine lv_iconst (v := 0) C.1.1 C.1.2.1 dX11_often_12 (by decide) ?_
  refine lv_istore_n (lv' := [(3, .int 0), (0, .ref (g 0)), (1, .int x1), (2, .int x2)]) C.1.1 C.1.2.1 dX11_often_13 rfl hl (by decide) rfl (fun ls hl => ?_)
  refine lv_iconst (v := 1) C.1.1 C.1.2.1 dX11_often_14 (by decide) ?_
  refine lv_istore (lv' := [(4, .int 1), (3, .int 0), (0, .ref (g 0)), (1, .int x1), (2, .int x2)]) C.1.1 C.1.2.1 dX11_often_15 hl (by decide) rfl (fun ls hl => ?_)
  exact hX11_often_17 C O Tb N _ _ _ _ _ _ _ _ X (lv_sub hl [2, 3, 4, 1, 0] rfl) hF
noncomputable def fX11_often (N : Nat) (x1 : Int32) (x2 : Int32) (S : gS) : Option (tR) := fX11_often_b0 N x1 x2 S
theorem kX11_often {l : Launch} {D : va_G} {g : Nat → Nat} {cI cB cZ cQ : ClassId} {Am : (Nat → Prop) → State → Heap → Prop} {aK aV : Nat → Nat} (O : tO l g cI cB cZ cQ Am aK aV) (P : gAm Am) (N : Nat) (x1 : Int32) (x2 : Int32) (S : gS) (o : tR) (hF : fX11_often N x1 x2 S = some o) : gN l yX11_often cX11_often 5 ((some .int)) 7 2 D (xtys cI cB cZ cQ) (xcell g cI cB cZ cQ) xord g Am [.ref (g 0), .int x1, .int x2] S false o :=
  gN_of P (by decide) (Nat.le_of_ble_eq_true rfl) (fun p e s m args below meth c ls C Tb X hl => bX11_often_0 C O Tb X (lv_sub hl [0, 1, 2] rfl) hF)
-- X11.toHire
noncomputable def fX11_toHire_b156 (N : Nat) (t0 : Int32) (S : gS) : Option (tR) := some (0, t0, S)
theorem bX11_toHire_156 {N : Nat} {t0 : Int32} {S : gS} {H : Heap} {locs : List Loc} {ls : Array Slot} {o : tR} (C : gC p s m args meth c cX11_toHire 8 RX11 ((some .int)) D (xtys cI cB cZ cQ) xord g Am) (O : tO l g cI cB cZ cQ Am aK aV) (Tb : ∀ x ∈ c.exceptionTable.toList, False) (X : gX D (xcell g cI cB cZ cQ) xord g S s H locs) (hl : lv_has ls 8 []) (hF : fX11_toHire_b156 N t0 S = some o) : W p l e (rmx 7 3) s m args below meth c H locs 3 18 (gEX below args s D (xtys cI cB cZ cQ) (xcell g cI cB cZ cQ) xord g 3 false o) (F0 m 156 ls [.int t0]) := by
  unfold fX11_toHire_b156 at hF
  cases hF
  exact t_iret C X (by decide) (by decide) dX11_toHire_156
noncomputable def fX11_toHire_b154 (N : Nat) (x5 : Int32) (S : gS) : Option (tR) := fX11_toHire_b156 N x5 S
theorem bX11_toHire_154 {N : Nat} {x5 : Int32} {S : gS} {H : Heap} {locs : List Loc} {ls : Array Slot} {o : tR} (C : gC p s m args meth c cX11_toHire 8 RX11 ((some .int)) D (xtys cI cB cZ cQ) xord g Am) (O : tO l g cI cB cZ cQ Am aK aV) (Tb : ∀ x ∈ c.exceptionTable.toList, False) (X : gX D (xcell g cI cB cZ cQ) xord g S s H locs) (hl : lv_has ls 8 [(5, .int x5)]) (hF : fX11_toHire_b154 N x5 S = some o) : W p l e (rmx 7 3) s m args below meth c H locs 3 18 (gEX below args s D (xtys cI cB cZ cQ) (xcell g cI cB cZ cQ) xord g 3 false o) (F0 m 154 ls []) := by
  unfold fX11_toHire_b154 at hF
  refine lv_iload C.1.1 C.1.2.1 dX11_toHire_154 (lv_at hl 0 rfl) ?_
  exact bX11_toHire_156 C O Tb X (lv_sub hl [] rfl) hF
noncomputable def fX11_toHire_b149 (N : Nat) (x4 : Int32) (S : gS) : Option (tR) := fX11_toHire_b156 N x4 S
theorem bX11_toHire_149 {N : Nat} {x4 : Int32} {S : gS} {H : Heap} {locs : List Loc} {ls : Array Slot} {o : tR} (C : gC p s m args meth c cX11_toHire 8 RX11 ((some .int)) D (xtys cI cB cZ cQ) xord g Am) (O : tO l g cI cB cZ cQ Am aK aV) (Tb : ∀ x ∈ c.exceptionTable.toList, False) (X : gX D (xcell g cI cB cZ cQ) xord g S s H locs) (hl : lv_has ls 8 [(4, .int x4)]) (hF : fX11_toHire_b149 N x4 S = some o) : W p l e (rmx 7 3) s m args below meth c H locs 3 18 (gEX below args s D (xtys cI cB cZ cQ) (xcell g cI cB cZ cQ) xord g 3 false o) (F0 m 149 ls []) := by
  unfold fX11_toHire_b149 at hF
  refine lv_iload C.1.1 C.1.2.1 dX11_toHire_149 (lv_at hl 0 rfl) ?_
  refine lv_goto (tgt := 156) C.1.1 C.1.2.1 dX11_toHire_151 (by decide) ?_
  exact bX11_toHire_156 C O Tb X (lv_sub hl [] rfl) hF
noncomputable def fX11_toHire_b145 (N : Nat) (x3 : Int32) (x4 : Int32) (x5 : Int32) (S : gS) : Option (tR) := if x3 = 0 then fX11_toHire_b149 N x4 S else fX11_toHire_b154 N x5 S
theorem bX11_toHire_145 {N : Nat} {x3 : Int32} {x4 : Int32} {x5 : Int32} {S : gS} {H : Heap} {locs : List Loc} {ls : Array Slot} {o : tR} (C : gC p s m args meth c cX11_toHire 8 RX11 ((some .int)) D (xtys cI cB cZ cQ) xord g Am) (O : tO l g cI cB cZ cQ Am aK aV) (Tb : ∀ x ∈ c.exceptionTable.toList, False) (X : gX D (xcell g cI cB cZ cQ) xord g S s H locs) (hl : lv_has ls 8 [(3, .int x3), (4, .int x4), (5, .int x5)]) (hF : fX11_toHire_b145 N x3 x4 x5 S = some o) : W p l e (rmx 7 3) s m args below meth c H locs 3 18 (gEX below args s D (xtys cI cB cZ cQ) (xcell g cI cB cZ cQ) xord g 3 false o) (F0 m 145 ls []) := by
  unfold fX11_toHire_b145 at hF
  refine lv_iload_n C.1.1 C.1.2.1 dX11_toHire_145 rfl (lv_at hl 0 rfl) ?_
  refine lv_if_ne (tgt := 154) C.1.1 C.1.2.1 dX11_toHire_146 (by decide) (fun h_z => ?_) (fun h_z => ?_)
  · rw [if_neg h_z] at hF
    exact bX11_toHire_154 C O Tb X (lv_sub hl [2] rfl) hF
  · rw [if_pos h_z] at hF
    exact bX11_toHire_149 C O Tb X (lv_sub hl [1] rfl) hF
noncomputable def fX11_toHire_b139 (N : Nat) (r26 : Int32 → Int32 → Int32 → Int32 → Int32 → Int32 → gS → Option (tR)) (x1 : Int32) (x2 : Int32) (x3 : Int32) (x4 : Int32) (x5 : Int32) (x6 : Int32) (S : gS) : Option (tR) := r26 x1 x2 x3 x4 x5 ((x6 + 1 : Int32)) S
theorem bX11_toHire_139 {N : Nat} {r26 : Int32 → Int32 → Int32 → Int32 → Int32 → Int32 → gS → Option (tR)} {x1 : Int32} {x2 : Int32} {x3 : Int32} {x4 : Int32} {x5 : Int32} {x6 : Int32} {S : gS} {H : Heap} {locs : List Loc} {ls : Array Slot} {o : tR} (C : gC p s m args meth c cX11_toHire 8 RX11 ((some .int)) D (xtys cI cB cZ cQ) xord g Am) (O : tO l g cI cB cZ cQ Am aK aV) (Tb : ∀ x ∈ c.exceptionTable.toList, False) (K26 : ∀ (x1 : Int32) (x2 : Int32) (x3 : Int32) (x4 : Int32) (x5 : Int32) (x6 : Int32) (S : gS) (H : Heap) (locs : List Loc) (ls : Array Slot), gX D (xcell g cI cB cZ cQ) xord g S s H locs → lv_has ls 8 [(0, .ref (g 0)), (1, .int x1), (2, .int x2), (3, .int x3), (4, .int x4), (5, .int x5), (6, .int x6)] → r26 x1 x2 x3 x4 x5 x6 S = some o → W p l e (rmx 7 3) s m args below meth c H locs 3 18 (gEX below args s D (xtys cI cB cZ cQ) (xcell g cI cB cZ cQ) xord g 3 false o) (F0 m 26 ls [])) (X : gX D (xcell g cI cB cZ cQ) xord g S s H locs) (hl : lv_has ls 8 [(0, .ref (g 0)), (1, .int x1), (2, .int x2), (3, .int x3), (4, .int x4), (5, .int x5), (6, .int x6)]) (hF : fX11_toHire_b139 N r26 x1 x2 x3 x4 x5 x6 S = some o) : W p l e (rmx 7 3) s m args below meth c H locs 3 18 (gEX below args s D (xtys cI cB cZ cQ) (xcell g cI cB cZ cQ) xord g 3 false o) (F0 m 139 ls []) := by
  unfold fX11_toHire_b139 at hF
  refine lv_iinc (v := (x6 + 1 : Int32)) (lv' := [(6, .int ((x6 + 1 : Int32))), (0, .ref (g 0)), (1, .int x1), (2, .int x2), (3, .int x3), (4, .int x4), (5, .int x5)]) C.1.1 C.1.2.1 dX11_toHire_139 hl (k := 6) rfl rfl (by decide) rfl (fun ls hl => ?_)
  refine lv_goto (tgt := 26) C.1.1 C.1.2.1 dX11_toHire_142 (by decide) ?_
  exact K26 _ _ _ _ _ _ _ _ _ _ X (lv_sub hl [1, 2, 3, 4, 5, 6, 0] rfl) hF
noncomputable def fX11_toHire_b126 (N : Nat) (r26 : Int32 → Int32 → Int32 → Int32 → Int32 → Int32 → gS → Option (tR)) (x1 : Int32) (x2 : Int32) (x3 : Int32) (x6 : Int32) (S : gS) : Option (tR) := fX11_toHire_b139 N r26 x1 x2 x3 x6 (S 51 1) x6 S
theorem bX11_toHire_126 {N : Nat} {r26 : Int32 → Int32 → Int32 → Int32 → Int32 → Int32 → gS → Option (tR)} {x1 : Int32} {x2 : Int32} {x3 : Int32} {x6 : Int32} {S : gS} {H : Heap} {locs : List Loc} {ls : Array Slot} {o : tR} (C : gC p s m args meth c cX11_toHire 8 RX11 ((some .int)) D (xtys cI cB cZ cQ) xord g Am) (O : tO l g cI cB cZ cQ Am aK aV) (Tb : ∀ x ∈ c.exceptionTable.toList, False) (K26 : ∀ (x1 : Int32) (x2 : Int32) (x3 : Int32) (x4 : Int32) (x5 : Int32) (x6 : Int32) (S : gS) (H : Heap) (locs : List Loc) (ls : Array Slot), gX D (xcell g cI cB cZ cQ) xord g S s H locs → lv_has ls 8 [(0, .ref (g 0)), (1, .int x1), (2, .int x2), (3, .int x3), (4, .int x4), (5, .int x5), (6, .int x6)] → r26 x1 x2 x3 x4 x5 x6 S = some o → W p l e (rmx 7 3) s m args below meth c H locs 3 18 (gEX below args s D (xtys cI cB cZ cQ) (xcell g cI cB cZ cQ) xord g 3 false o) (F0 m 26 ls [])) (X : gX D (xcell g cI cB cZ cQ) xord g S s H locs) (hl : lv_has ls 8 [(0, .ref (g 0)), (1, .int x1), (2, .int x2), (3, .int x3), (6, .int x6)]) (hF : fX11_toHire_b126 N r26 x1 x2 x3 x6 S = some o) : W p l e (rmx 7 3) s m args below meth c H locs 3 18 (gEX below args s D (xtys cI cB cZ cQ) (xcell g cI cB cZ cQ) xord g 3 false o) (F0 m 126 ls []) := by
  unfold fX11_toHire_b126 at hF
  refine lv_iload C.1.1 C.1.2.1 dX11_toHire_126 (lv_at hl 4 rfl) ?_
  refine lv_istore (lv' := [(4, .int x6), (0, .ref (g 0)), (1, .int x1), (2, .int x2), (3, .int x3), (6, .int x6)]) C.1.1 C.1.2.1 dX11_toHire_128 hl (by decide) rfl (fun ls hl => ?_)
  refine lv_aload_n C.1.1 C.1.2.1 dX11_toHire_130 rfl (lv_at hl 1 rfl) ?_
  refine xg_X11_36 C O.1.1 X (k := 0) rfl (j := 51) rfl dX11_toHire_131 ?_
  refine xg_X11_250 C O.1.1 X (k := 51) rfl dX11_toHire_134 ?_
  refine lv_istore (lv' := [(5, .int (S 51 1)), (4, .int x6), (0, .ref (g 0)), (1, .int x1), (2, .int x2), (3, .int x3), (6, .int x6)]) C.1.1 C.1.2.1 dX11_toHire_137 hl (by decide) rfl (fun ls hl => ?_)
  exact bX11_toHire_139 C O Tb K26 X (lv_sub hl [2, 3, 4, 5, 1, 0, 6] rfl) hF
noncomputable def fX11_toHire_b114 (N : Nat) (r26 : Int32 → Int32 → Int32 → Int32 → Int32 → Int32 → gS → Option (tR)) (x1 : Int32) (x2 : Int32) (x3 : Int32) (x4 : Int32) (x5 : Int32) (x6 : Int32) (S : gS) : Option (tR) := if x5 ≤ (S 51 1) then fX11_toHire_b139 N r26 x1 x2 x3 x4 x5 x6 S else fX11_toHire_b126 N r26 x1 x2 x3 x6 S
theorem bX11_toHire_114 {N : Nat} {r26 : Int32 → Int32 → Int32 → Int32 → Int32 → Int32 → gS → Option (tR)} {x1 : Int32} {x2 : Int32} {x3 : Int32} {x4 : Int32} {x5 : Int32} {x6 : Int32} {S : gS} {H : Heap} {locs : List Loc} {ls : Array Slot} {o : tR} (C : gC p s m args meth c cX11_toHire 8 RX11 ((some .int)) D (xtys cI cB cZ cQ) xord g Am) (O : tO l g cI cB cZ cQ Am aK aV) (Tb : ∀ x ∈ c.exceptionTable.toList, False) (K26 : ∀ (x1 : Int32) (x2 : Int32) (x3 : Int32) (x4 : Int32) (x5 : Int32) (x6 : Int32) (S : gS) (H : Heap) (locs : List Loc) (ls : Array Slot), gX D (xcell g cI cB cZ cQ) xord g S s H locs → lv_has ls 8 [(0, .ref (g 0)), (1, .int x1), (2, .int x2), (3, .int x3), (4, .int x4), (5, .int x5), (6, .int x6)] → r26 x1 x2 x3 x4 x5 x6 S = some o → W p l e (rmx 7 3) s m args below meth c H locs 3 18 (gEX below args s D (xtys cI cB cZ cQ) (xcell g cI cB cZ cQ) xord g 3 false o) (F0 m 26 ls [])) (X : gX D (xcell g cI cB cZ cQ) xord g S s H locs) (hl : lv_has ls 8 [(0, .ref (g 0)), (1, .int x1), (2, .int x2), (3, .int x3), (4, .int x4), (5, .int x5), (6, .int x6)]) (hF : fX11_toHire_b114 N r26 x1 x2 x3 x4 x5 x6 S = some o) : W p l e (rmx 7 3) s m args below meth c H locs 3 18 (gEX below args s D (xtys cI cB cZ cQ) (xcell g cI cB cZ cQ) xord g 3 false o) (F0 m 114 ls []) := by
  unfold fX11_toHire_b114 at hF
  refine lv_aload_n C.1.1 C.1.2.1 dX11_toHire_114 rfl (lv_at hl 0 rfl) ?_
  refine xg_X11_36 C O.1.1 X (k := 0) rfl (j := 51) rfl dX11_toHire_115 ?_
  refine xg_X11_250 C O.1.1 X (k := 51) rfl dX11_toHire_118 ?_
  refine lv_iload C.1.1 C.1.2.1 dX11_toHire_121 (lv_at hl 5 rfl) ?_
  refine lv_icmp_ge (tgt := 139) C.1.1 C.1.2.1 dX11_toHire_123 (by decide) (fun h_z => ?_) (fun h_z => ?_)
  · rw [if_pos h_z] at hF
    exact bX11_toHire_139 C O Tb K26 X (lv_sub hl [0, 1, 2, 3, 4, 5, 6] rfl) hF
  · rw [if_neg h_z] at hF
    exact bX11_toHire_126 C O Tb K26 X (lv_sub hl [0, 1, 2, 3, 6] rfl) hF
noncomputable def fX11_toHire_b68 (N : Nat) (r26 : Int32 → Int32 → Int32 → Int32 → Int32 → Int32 → gS → Option (tR)) (x1 : Int32) (x2 : Int32) (x3 : Int32) (x4 : Int32) (x5 : Int32) (x6 : Int32) (S : gS) : Option (tR) := lt (xtw S) fun T1 => (bnd (fX10_begin N T1 21 x1 S) fun q1 => (lt (sU q1.2 51 4 x6) fun S1 => (lt (xtw S1) fun T2 => (bnd (fX10_passHours N T2 x2 S1) fun q2 => (if x4 = ((-1)) then fX11_toHire_b126 N r26 x1 x2 x3 x6 q2.2 else fX11_toHire_b114 N r26 x1 x2 x3 x4 x5 x6 q2.2)))))
theorem bX11_toHire_68 {N : Nat} {r26 : Int32 → Int32 → Int32 → Int32 → Int32 → Int32 → gS → Option (tR)} {x1 : Int32} {x2 : Int32} {x3 : Int32} {x4 : Int32} {x5 : Int32} {x6 : Int32} {S : gS} {H : Heap} {locs : List Loc} {ls : Array Slot} {o : tR} (C : gC p s m args meth c cX11_toHire 8 RX11 ((some .int)) D (xtys cI cB cZ cQ) xord g Am) (O : tO l g cI cB cZ cQ Am aK aV) (Tb : ∀ x ∈ c.exceptionTable.toList, False) (K26 : ∀ (x1 : Int32) (x2 : Int32) (x3 : Int32) (x4 : Int32) (x5 : Int32) (x6 : Int32) (S : gS) (H : Heap) (locs : List Loc) (ls : Array Slot), gX D (xcell g cI cB cZ cQ) xord g S s H locs → lv_has ls 8 [(0, .ref (g 0)), (1, .int x1), (2, .int x2), (3, .int x3), (4, .int x4), (5, .int x5), (6, .int x6)] → r26 x1 x2 x3 x4 x5 x6 S = some o → W p l e (rmx 7 3) s m args below meth c H locs 3 18 (gEX below args s D (xtys cI cB cZ cQ) (xcell g cI cB cZ cQ) xord g 3 false o) (F0 m 26 ls [])) (X : gX D (xcell g cI cB cZ cQ) xord g S s H locs) (hl : lv_has ls 8 [(0, .ref (g 0)), (1, .int x1), (2, .int x2), (3, .int x3), (4, .int x4), (5, .int x5), (6, .int x6)]) (hF : fX11_toHire_b68 N r26 x1 x2 x3 x4 x5 x6 S = some o) : W p l e (rmx 7 3) s m args below meth c H locs 3 18 (gEX below args s D (xtys cI cB cZ cQ) (xcell g cI cB cZ cQ) xord g 3 false o) (F0 m 68 ls []) := by
  unfold fX11_toHire_b68 at hF
  refine lv_aload_n C.1.1 C.1.2.1 dX11_toHire_68 rfl (lv_at hl 0 rfl) ?_
  refine xg_X11_36 C O.1.1 X (k := 0) rfl (j := 51) rfl dX11_toHire_69 ?_
  refine lv_aload_n C.1.1 C.1.2.1 dX11_toHire_72 rfl (lv_at hl 0 rfl) ?_
  obtain ⟨T1, eT1, hF⟩ := lt_some hF
  have hk_T1 := xtw_k eT1
  refine xg_X11_57 C O.1.1 X (T := T1) eT1 (k := 0) rfl dX11_toHire_73 ?_
  refine lv_aload_n C.1.1 C.1.2.1 dX11_toHire_76 rfl (lv_at hl 0 rfl) ?_
  refine xg_X11_19 C O.1.1 X (k := 0) rfl (j := 20) rfl dX11_toHire_77 ?_
  refine xg_X11_105 C O.1.1 X (k := 20) rfl (j := 21) rfl dX11_toHire_80 ?_
  refine lv_iload_n C.1.1 C.1.2.1 dX11_toHire_83 rfl (lv_at hl 1 rfl) ?_
  obtain ⟨q1, hq1, hF⟩ := bnd_some hF
  refine x_callV C X (k := 51) xv_X11_243 (rfl : xk 51 = 10) rfl rfl (by decide) (kX10_begin O.1.1 C.2.2.2.2.1 N T1 21 x1 (hk_T1 : xk T1 = 9) (rfl : xk 21 = 7) S q1 hq1) (Nat.le_of_ble_eq_true rfl) (Nat.le_of_ble_eq_true rfl) (Nat.le_of_ble_eq_true rfl) (Nat.le_of_ble_eq_true rfl) rfl hl.1 rfl (Nat.le_of_ble_eq_true rfl) dX11_toHire_84 (fun H locs X => ?_)
  refine lv_aload_n C.1.1 C.1.2.1 dX11_toHire_87 rfl (lv_at hl 0 rfl) ?_
  refine xg_X11_36 C O.1.1 X (k := 0) rfl (j := 51) rfl dX11_toHire_88 ?_
  refine lv_iload C.1.1 C.1.2.1 dX11_toHire_91 (lv_at hl 6 rfl) ?_
  obtain ⟨S1, eS1, hF⟩ := lt_some hF
  refine xp_X11_256 C O.1.1 X (k := 51) rfl eS1 dX11_toHire_93 (fun H locs X => ?_)
  refine lv_aload_n C.1.1 C.1.2.1 dX11_toHire_96 rfl (lv_at hl 0 rfl) ?_
  refine xg_X11_36 C O.1.1 X (k := 0) rfl (j := 51) rfl dX11_toHire_97 ?_
  refine lv_aload_n C.1.1 C.1.2.1 dX11_toHire_100 rfl (lv_at hl 0 rfl) ?_
  obtain ⟨T2, eT2, hF⟩ := lt_some hF
  have hk_T2 := xtw_k eT2
  refine xg_X11_57 C O.1.1 X (T := T2) eT2 (k := 0) rfl dX11_toHire_101 ?_
  refine lv_iload_n C.1.1 C.1.2.1 dX11_toHire_104 rfl (lv_at hl 2 rfl) ?_
  obtain ⟨q2, hq2, hF⟩ := bnd_some hF
  refine x_callV C X (k := 51) xv_X11_246 (rfl : xk 51 = 10) rfl rfl (by decide) (kX10_passHours O.1.1 C.2.2.2.2.1 N T2 x2 (hk_T2 : xk T2 = 9) S1 q2 hq2) (Nat.le_of_ble_eq_true rfl) (Nat.le_of_ble_eq_true rfl) (Nat.le_of_ble_eq_true rfl) (Nat.le_of_ble_eq_true rfl) rfl hl.1 rfl (Nat.le_of_ble_eq_true rfl) dX11_toHire_105 (fun H locs X => ?_)
  refine lv_iload C.1.1 C.1.2.1 dX11_toHire_108 (lv_at hl 4 rfl) ?_
  refine lv_iconst (v := (-1)) C.1.1 C.1.2.1 dX11_toHire_110 (by decide) ?_
  refine lv_icmp_eq (tgt := 126) C.1.1 C.1.2.1 dX11_toHire_111 (by decide) (fun h_z => ?_) (fun h_z => ?_)
  · rw [if_pos h_z] at hF
    exact bX11_toHire_126 C O Tb K26 X (lv_sub hl [0, 1, 2, 3, 6] rfl) hF
  · rw [if_neg h_z] at hF
    exact bX11_toHire_114 C O Tb K26 X (lv_sub hl [0, 1, 2, 3, 4, 5, 6] rfl) hF
noncomputable def fX11_toHire_b62 (N : Nat) (r26 : Int32 → Int32 → Int32 → Int32 → Int32 → Int32 → gS → Option (tR)) (x1 : Int32) (x2 : Int32) (x3 : Int32) (x4 : Int32) (x5 : Int32) (x6 : Int32) (x7 : Int32) (S : gS) : Option (tR) := if x7 = x1 then fX11_toHire_b68 N r26 x1 x2 x3 x4 x5 x6 S else fX11_toHire_b139 N r26 x1 x2 x3 x4 x5 x6 S
theorem bX11_toHire_62 {N : Nat} {r26 : Int32 → Int32 → Int32 → Int32 → Int32 → Int32 → gS → Option (tR)} {x1 : Int32} {x2 : Int32} {x3 : Int32} {x4 : Int32} {x5 : Int32} {x6 : Int32} {x7 : Int32} {S : gS} {H : Heap} {locs : List Loc} {ls : Array Slot} {o : tR} (C : gC p s m args meth c cX11_toHire 8 RX11 ((some .int)) D (xtys cI cB cZ cQ) xord g Am) (O : tO l g cI cB cZ cQ Am aK aV) (Tb : ∀ x ∈ c.exceptionTable.toList, False) (K26 : ∀ (x1 : Int32) (x2 : Int32) (x3 : Int32) (x4 : Int32) (x5 : Int32) (x6 : Int32) (S : gS) (H : Heap) (locs : List Loc) (ls : Array Slot), gX D (xcell g cI cB cZ cQ) xord g S s H locs → lv_has ls 8 [(0, .ref (g 0)), (1, .int x1), (2, .int x2), (3, .int x3), (4, .int x4), (5, .int x5), (6, .int x6)] → r26 x1 x2 x3 x4 x5 x6 S = some o → W p l e (rmx 7 3) s m args below meth c H locs 3 18 (gEX below args s D (xtys cI cB cZ cQ) (xcell g cI cB cZ cQ) xord g 3 false o) (F0 m 26 ls [])) (X : gX D (xcell g cI cB cZ cQ) xord g S s H locs) (hl : lv_has ls 8 [(0, .ref (g 0)), (1, .int x1), (2, .int x2), (3, .int x3), (4, .int x4), (5, .int x5), (6, .int x6), (7, .int x7)]) (hF : fX11_toHire_b62 N r26 x1 x2 x3 x4 x5 x6 x7 S = some o) : W p l e (rmx 7 3) s m args below meth c H locs 3 18 (gEX below args s D (xtys cI cB cZ cQ) (xcell g cI cB cZ cQ) xord g 3 false o) (F0 m 62 ls []) := by
  unfold fX11_toHire_b62 at hF
  refine lv_iload C.1.1 C.1.2.1 dX11_toHire_62 (lv_at hl 7 rfl) ?_
  refine lv_iload_n C.1.1 C.1.2.1 dX11_toHire_64 rfl (lv_at hl 1 rfl) ?_
  refine lv_icmp_ne (tgt := 139) C.1.1 C.1.2.1 dX11_toHire_65 (by decide) (fun h_z => ?_) (fun h_z => ?_)
  · rw [if_neg h_z] at hF
    exact bX11_toHire_139 C O Tb K26 X (lv_sub hl [0, 1, 2, 3, 4, 5, 6] rfl) hF
  · rw [if_pos h_z] at hF
    exact bX11_toHire_68 C O Tb K26 X (lv_sub hl [0, 1, 2, 3, 4, 5, 6] rfl) hF
noncomputable def fX11_toHire_b38 (N : Nat) (r26 : Int32 → Int32 → Int32 → Int32 → Int32 → Int32 → gS → Option (tR)) (x1 : Int32) (x2 : Int32) (x3 : Int32) (x4 : Int32) (x5 : Int32) (x6 : Int32) (S : gS) : Option (tR) := lt (xtw S) fun T1 => (bnd (fX7_holderOf N 21 T1 x6 S) fun q1 => (if q1.1 = ((-1)) then fX11_toHire_b68 N r26 x1 x2 x3 x4 x5 x6 q1.2 else fX11_toHire_b62 N r26 x1 x2 x3 x4 x5 x6 q1.1 q1.2))
theorem bX11_toHire_38 {N : Nat} {r26 : Int32 → Int32 → Int32 → Int32 → Int32 → Int32 → gS → Option (tR)} {x1 : Int32} {x2 : Int32} {x3 : Int32} {x4 : Int32} {x5 : Int32} {x6 : Int32} {S : gS} {H : Heap} {locs : List Loc} {ls : Array Slot} {o : tR} (C : gC p s m args meth c cX11_toHire 8 RX11 ((some .int)) D (xtys cI cB cZ cQ) xord g Am) (O : tO l g cI cB cZ cQ Am aK aV) (Tb : ∀ x ∈ c.exceptionTable.toList, False) (K26 : ∀ (x1 : Int32) (x2 : Int32) (x3 : Int32) (x4 : Int32) (x5 : Int32) (x6 : Int32) (S : gS) (H : Heap) (locs : List Loc) (ls : Array Slot), gX D (xcell g cI cB cZ cQ) xord g S s H locs → lv_has ls 8 [(0, .ref (g 0)), (1, .int x1), (2, .int x2), (3, .int x3), (4, .int x4), (5, .int x5), (6, .int x6)] → r26 x1 x2 x3 x4 x5 x6 S = some o → W p l e (rmx 7 3) s m args below meth c H locs 3 18 (gEX below args s D (xtys cI cB cZ cQ) (xcell g cI cB cZ cQ) xord g 3 false o) (F0 m 26 ls [])) (X : gX D (xcell g cI cB cZ cQ) xord g S s H locs) (hl : lv_has ls 8 [(0, .ref (g 0)), (1, .int x1), (2, .int x2), (3, .int x3), (4, .int x4), (5, .int x5), (6, .int x6)]) (hF : fX11_toHire_b38 N r26 x1 x2 x3 x4 x5 x6 S = some o) : W p l e (rmx 7 3) s m args below meth c H locs 3 18 (gEX below args s D (xtys cI cB cZ cQ) (xcell g cI cB cZ cQ) xord g 3 false o) (F0 m 38 ls []) := by
  unfold fX11_toHire_b38 at hF
  refine lv_aload_n C.1.1 C.1.2.1 dX11_toHire_38 rfl (lv_at hl 0 rfl) ?_
  refine xg_X11_19 C O.1.1 X (k := 0) rfl (j := 20) rfl dX11_toHire_39 ?_
  refine xg_X11_105 C O.1.1 X (k := 20) rfl (j := 21) rfl dX11_toHire_42 ?_
  refine lv_aload_n C.1.1 C.1.2.1 dX11_toHire_45 rfl (lv_at hl 0 rfl) ?_
  obtain ⟨T1, eT1, hF⟩ := lt_some hF
  have hk_T1 := xtw_k eT1
  refine xg_X11_57 C O.1.1 X (T := T1) eT1 (k := 0) rfl dX11_toHire_46 ?_
  refine lv_iload C.1.1 C.1.2.1 dX11_toHire_49 (lv_at hl 6 rfl) ?_
  obtain ⟨q1, hq1, hF⟩ := bnd_some hF
  refine x_callVi C X (k := 21) xv_X11_182 (rfl : xk 21 = 7) rfl rfl (by decide) (kX7_holderOf O.1.1 C.2.2.2.2.1 N 21 T1 x6 (rfl : xk 21 = 7) (hk_T1 : xk T1 = 9) S q1 hq1) (Nat.le_of_ble_eq_true rfl) (Nat.le_of_ble_eq_true rfl) (Nat.le_of_ble_eq_true rfl) (Nat.le_of_ble_eq_true rfl) rfl hl.1 rfl (Nat.le_of_ble_eq_true rfl) dX11_toHire_51 (fun H locs X => ?_)
  refine lv_istore (lv' := [(7, .int q1.1), (0, .ref (g 0)), (1, .int x1), (2, .int x2), (3, .int x3), (4, .int x4), (5, .int x5), (6, .int x6)]) C.1.1 C.1.2.1 dX11_toHire_54 hl (by decide) rfl (fun ls hl => ?_)
  refine lv_iload C.1.1 C.1.2.1 dX11_toHire_56 (lv_at hl 0 rfl) ?_
  refine lv_iconst (v := (-1)) C.1.1 C.1.2.1 dX11_toHire_58 (by decide) ?_
  refine lv_icmp_eq (tgt := 68) C.1.1 C.1.2.1 dX11_toHire_59 (by decide) (fun h_z => ?_) (fun h_z => ?_)
  · rw [if_pos h_z] at hF
    exact bX11_toHire_68 C O Tb K26 X (lv_sub hl [1, 2, 3, 4, 5, 6, 7] rfl) hF
  · rw [if_neg h_z] at hF
    exact bX11_toHire_62 C O Tb K26 X (lv_sub hl [1, 2, 3, 4, 5, 6, 7, 0] rfl) hF
noncomputable def fX11_toHire_b26 (N : Nat) (r26 : Int32 → Int32 → Int32 → Int32 → Int32 → Int32 → gS → Option (tR)) (x1 : Int32) (x2 : Int32) (x3 : Int32) (x4 : Int32) (x5 : Int32) (x6 : Int32) (S : gS) : Option (tR) := lt (xtw S) fun T1 => (if (S T1 0) ≤ x6 then fX11_toHire_b145 N x3 x4 x5 S else fX11_toHire_b38 N r26 x1 x2 x3 x4 x5 x6 S)
theorem bX11_toHire_26 {N : Nat} {r26 : Int32 → Int32 → Int32 → Int32 → Int32 → Int32 → gS → Option (tR)} {x1 : Int32} {x2 : Int32} {x3 : Int32} {x4 : Int32} {x5 : Int32} {x6 : Int32} {S : gS} {H : Heap} {locs : List Loc} {ls : Array Slot} {o : tR} (C : gC p s m args meth c cX11_toHire 8 RX11 ((some .int)) D (xtys cI cB cZ cQ) xord g Am) (O : tO l g cI cB cZ cQ Am aK aV) (Tb : ∀ x ∈ c.exceptionTable.toList, False) (K26 : ∀ (x1 : Int32) (x2 : Int32) (x3 : Int32) (x4 : Int32) (x5 : Int32) (x6 : Int32) (S : gS) (H : Heap) (locs : List Loc) (ls : Array Slot), gX D (xcell g cI cB cZ cQ) xord g S s H locs → lv_has ls 8 [(0, .ref (g 0)), (1, .int x1), (2, .int x2), (3, .int x3), (4, .int x4), (5, .int x5), (6, .int x6)] → r26 x1 x2 x3 x4 x5 x6 S = some o → W p l e (rmx 7 3) s m args below meth c H locs 3 18 (gEX below args s D (xtys cI cB cZ cQ) (xcell g cI cB cZ cQ) xord g 3 false o) (F0 m 26 ls [])) (X : gX D (xcell g cI cB cZ cQ) xord g S s H locs) (hl : lv_has ls 8 [(0, .ref (g 0)), (1, .int x1), (2, .int x2), (3, .int x3), (4, .int x4), (5, .int x5), (6, .int x6)]) (hF : fX11_toHire_b26 N r26 x1 x2 x3 x4 x5 x6 S = some o) : W p l e (rmx 7 3) s m args below meth c H locs 3 18 (gEX below args s D (xtys cI cB cZ cQ) (xcell g cI cB cZ cQ) xord g 3 false o) (F0 m 26 ls []) := by
  unfold fX11_toHire_b26 at hF
  refine lv_iload C.1.1 C.1.2.1 dX11_toHire_26 (lv_at hl 6 rfl) ?_
  refine lv_aload_n C.1.1 C.1.2.1 dX11_toHire_28 rfl (lv_at hl 0 rfl) ?_
  obtain ⟨T1, eT1, hF⟩ := lt_some hF
  have hk_T1 := xtw_k eT1
  refine xg_X11_57 C O.1.1 X (T := T1) eT1 (k := 0) rfl dX11_toHire_29 ?_
  refine xg_X11_108 C O.1.1 X (k := T1) hk_T1 dX11_toHire_32 ?_
  refine lv_icmp_ge (tgt := 145) C.1.1 C.1.2.1 dX11_toHire_35 (by decide) (fun h_z => ?_) (fun h_z => ?_)
  · rw [if_pos h_z] at hF
    exact bX11_toHire_145 C O Tb X (lv_sub hl [3, 4, 5] rfl) hF
  · rw [if_neg h_z] at hF
    exact bX11_toHire_38 C O Tb K26 X (lv_sub hl [0, 1, 2, 3, 4, 5, 6] rfl) hF
noncomputable def fX11_toHire_h26 (N : Nat) : Nat → Int32 → Int32 → Int32 → Int32 → Int32 → Int32 → gS → Option (tR)
  | 0, _, _, _, _, _, _, _ => none
  | n + 1, x1, x2, x3, x4, x5, x6, S => fX11_toHire_b26 N (fX11_toHire_h26 N n) x1 x2 x3 x4 x5 x6 S
theorem hX11_toHire_26 {N : Nat} {o : tR} (C : gC p s m args meth c cX11_toHire 8 RX11 ((some .int)) D (xtys cI cB cZ cQ) xord g Am) (O : tO l g cI cB cZ cQ Am aK aV) (Tb : ∀ x ∈ c.exceptionTable.toList, False) : ∀ (n : Nat) (x1 : Int32) (x2 : Int32) (x3 : Int32) (x4 : Int32) (x5 : Int32) (x6 : Int32) (S : gS) (H : Heap) (locs : List Loc) (ls : Array Slot), gX D (xcell g cI cB cZ cQ) xord g S s H locs → lv_has ls 8 [(0, .ref (g 0)), (1, .int x1), (2, .int x2), (3, .int x3), (4, .int x4), (5, .int x5), (6, .int x6)] → fX11_toHire_h26 N n x1 x2 x3 x4 x5 x6 S = some o → W p l e (rmx 7 3) s m args below meth c H locs 3 18 (gEX below args s D (xtys cI cB cZ cQ) (xcell g cI cB cZ cQ) xord g 3 false o) (F0 m 26 ls []) := by
  intro n
  induction n with
  | zero =>
    intro x1 x2 x3 x4 x5 x6 S H locs ls X hl hF
    exact absurd (show (none : Option (tR)) = some o from hF) (by simp)
  | succ n ih =>
    intro x1 x2 x3 x4 x5 x6 S H locs ls X hl hF
    have hF : fX11_toHire_b26 N (fX11_toHire_h26 N n) x1 x2 x3 x4 x5 x6 S = some o := hF
    exact bX11_toHire_26 C O Tb ih X hl hF
noncomputable def fX11_toHire_b0 (N : Nat) (x1 : Int32) (x2 : Int32) (x3 : Int32) (S : gS) : Option (tR) := bnx (fX11_needGuild N x1 S) fun q1 => (bnx (fX11_needWhat N x3 1 q1.2.2) fun q2 => (bnx (fX11_needWithin N x2 1 60 q2.2.2) fun q3 => (fX11_toHire_h26 N N x1 x2 x3 ((-1)) ((-1)) 0 q3.2.2)))
theorem bX11_toHire_0 {N : Nat} {x1 : Int32} {x2 : Int32} {x3 : Int32} {S : gS} {H : Heap} {locs : List Loc} {ls : Array Slot} {o : tR} (C : gC p s m args meth c cX11_toHire 8 RX11 ((some .int)) D (xtys cI cB cZ cQ) xord g Am) (O : tO l g cI cB cZ cQ Am aK aV) (Tb : ∀ x ∈ c.exceptionTable.toList, False) (X : gX D (xcell g cI cB cZ cQ) xord g S s H locs) (hl : lv_has ls 8 [(0, .ref (g 0)), (1, .int x1), (2, .int x2), (3, .int x3)]) (hF : fX11_toHire_b0 N x1 x2 x3 S = some o) : W p l e (rmx 7 3) s m args below meth c H locs 0 0 (gEX below args s D (xtys cI cB cZ cQ) (xcell g cI cB cZ cQ) xord g 3 false o) (F0 m 0 ls []) := by
  unfold fX11_toHire_b0 at hF
  refine lv_aload_n C.1.1 C.1.2.1 dX11_toHire_0 rfl (lv_at hl 0 rfl) ?_
  refine lv_iload_n C.1.1 C.1.2.1 dX11_toHire_1 rfl (lv_at hl 1 rfl) ?_
  rcases (bnx_some hF).symm with ⟨q1, hq1, zq1, eo⟩ | ⟨q1, hq1, zq1, hF⟩
  · subst eo
    exact t_thr (x_preT C X xv_X11_191 rfl (kX11_needGuild O C.2.2.2.2.1 N x1 S q1 hq1) (Nat.le_of_ble_eq_true rfl) (Nat.le_of_ble_eq_true rfl) (Nat.le_of_ble_eq_true rfl) (Nat.le_of_ble_eq_true rfl) rfl hl.1 rfl (Nat.le_of_ble_eq_true rfl) dX11_toHire_2) zq1 C Tb X (by decide) (by decide)
  refine t_okv (x_preT C X xv_X11_191 rfl (kX11_needGuild O C.2.2.2.2.1 N x1 S q1 hq1) (Nat.le_of_ble_eq_true rfl) (Nat.le_of_ble_eq_true rfl) (Nat.le_of_ble_eq_true rfl) (Nat.le_of_ble_eq_true rfl) rfl hl.1 rfl (Nat.le_of_ble_eq_true rfl) dX11_toHire_2) zq1 X (fun H locs X => ?_)
  refine W.widen (k := 1) (n := 6) (by decide) (by decide) ?_
  refine lv_iload_n C.1.1 C.1.2.1 dX11_toHire_5 rfl (lv_at hl 3 rfl) ?_
  refine lv_iconst (v := 1) C.1.1 C.1.2.1 dX11_toHire_6 (by decide) ?_
  rcases (bnx_some hF).symm with ⟨q2, hq2, zq2, eo⟩ | ⟨q2, hq2, zq2, hF⟩
  · subst eo
    exact t_thr (t_preS C X xv_X11_236 (kX11_needWhat O C.2.2.2.2.1 N x3 1 q1.2.2 q2 hq2) (Nat.le_of_ble_eq_true rfl) (Nat.le_of_ble_eq_true rfl) (Nat.le_of_ble_eq_true rfl) (Nat.le_of_ble_eq_true rfl) rfl hl.1 rfl (Nat.le_of_ble_eq_true rfl) dX11_toHire_7) zq2 C Tb X (by decide) (by decide)
  refine t_okv (t_preS C X xv_X11_236 (kX11_needWhat O C.2.2.2.2.1 N x3 1 q1.2.2 q2 hq2) (Nat.le_of_ble_eq_true rfl) (Nat.le_of_ble_eq_true rfl) (Nat.le_of_ble_eq_true rfl) (Nat.le_of_ble_eq_true rfl) rfl hl.1 rfl (Nat.le_of_ble_eq_true rfl) dX11_toHire_7) zq2 X (fun H locs X => ?_)
  refine W.widen (k := 2) (n := 12) (by decide) (by decide) ?_
  refine lv_iload_n C.1.1 C.1.2.1 dX11_toHire_10 rfl (lv_at hl 2 rfl) ?_
  refine lv_iconst (v := 1) C.1.1 C.1.2.1 dX11_toHire_11 (by decide) ?_
  refine lv_bipush (v := 60) C.1.1 C.1.2.1 dX11_toHire_12 (by decide) ?_
  rcases (bnx_some hF).symm with ⟨q3, hq3, zq3, eo⟩ | ⟨q3, hq3, zq3, hF⟩
  · subst eo
    exact t_thr (t_preS C X xv_X11_239 (kX11_needWithin O C.2.2.2.2.1 N x2 1 60 q2.2.2 q3 hq3) (Nat.le_of_ble_eq_true rfl) (Nat.le_of_ble_eq_true rfl) (Nat.le_of_ble_eq_true rfl) (Nat.le_of_ble_eq_true rfl) rfl hl.1 rfl (Nat.le_of_ble_eq_true rfl) dX11_toHire_14) zq3 C Tb X (by decide) (by decide)
  refine t_okv (t_preS C X xv_X11_239 (kX11_needWithin O C.2.2.2.2.1 N x2 1 60 q2.2.2 q3 hq3) (Nat.le_of_ble_eq_true rfl) (Nat.le_of_ble_eq_true rfl) (Nat.le_of_ble_eq_true rfl) (Nat.le_of_ble_eq_true rfl) rfl hl.1 rfl (Nat.le_of_ble_eq_true rfl) dX11_toHire_14) zq3 X (fun H locs X => ?_)
  refine W.widen (k := 3) (n := 18) (by decide) (by decide) ?_
  refine lv_iconst (v := (-1)) C.1.1 C.1.2.1 dX11_toHire_17 (by decide) ?_
  refine lv_istore (lv' := [(4, .int ((-1))), (0, .ref (g 0)), (1, .int x1), (2, .int x2), (3, .int x3)]) C.1.1 C.1.2.1 dX11_toHire_18 hl (by decide) rfl (fun ls hl => ?_)
  refine lv_iconst (v := (-1)) C.1.1 C.1.2.1 dX11_toHire_20 (by decide) ?_
  refine lv_istore (lv' := [(5, .int ((-1))), (4, .int ((-1))), (0, .ref (g 0)), (1, .int x1), (2, .int x2), (3, .int x3)]) C.1.1 C.1.2.1 dX11_toHire_21 hl (by decide) rfl (fun ls hl => ?_)
  refine lv_iconst (v := 0) C.1.1 C.1.2.1 dX11_toHire_23 (by decide) ?_
  refine lv_istore (lv' := [(6, .int 0), (5, .int ((-1))), (4, .int ((-1))), (0, .ref (g 0)), (1, .int x1), (2, .int x2), (3, .int x3)]) C.1.1 C.1.2.1 dX11_toHire_24 hl (by decide) rfl (fun ls hl => ?_)
  exact hX11_toHire_26 C O Tb N _ _ _ _ _ _ _ _ _ _ X (lv_sub hl [3, 4, 5, 6, 2, 1, 0] rfl) hF
noncomputable def fX11_toHire (N : Nat) (x1 : Int32) (x2 : Int32) (x3 : Int32) (S : gS) : Option (tR) := fX11_toHire_b0 N x1 x2 x3 S
theorem kX11_toHire {l : Launch} {D : va_G} {g : Nat → Nat} {cI cB cZ cQ : ClassId} {Am : (Nat → Prop) → State → Heap → Prop} {aK aV : Nat → Nat} (O : tO l g cI cB cZ cQ Am aK aV) (P : gAm Am) (N : Nat) (x1 : Int32) (x2 : Int32) (x3 : Int32) (S : gS) (o : tR) (hF : fX11_toHire N x1 x2 x3 S = some o) : gN l yX11_toHire cX11_toHire 8 ((some .int)) 7 3 D (xtys cI cB cZ cQ) (xcell g cI cB cZ cQ) xord g Am [.ref (g 0), .int x1, .int x2, .int x3] S false o :=
  gN_of P (by decide) (Nat.le_of_ble_eq_true rfl) (fun p e s m args below meth c ls C Tb X hl => bX11_toHire_0 C O Tb X (lv_sub hl [0, 1, 2, 3] rfl) hF)
-- X11.shared
noncomputable def fX11_shared_b44 (N : Nat) (t0 : Int32) (S : gS) : Option (tR) := some (0, t0, S)
theorem bX11_shared_44 {N : Nat} {t0 : Int32} {S : gS} {H : Heap} {locs : List Loc} {ls : Array Slot} {o : tR} (C : gC p s m args meth c cX11_shared 2 RX11 ((some .int)) D (xtys cI cB cZ cQ) xord g Am) (O : tO l g cI cB cZ cQ Am aK aV) (Tb : ∀ x ∈ c.exceptionTable.toList, False) (X : gX D (xcell g cI cB cZ cQ) xord g S s H locs) (hl : lv_has ls 2 []) (hF : fX11_shared_b44 N t0 S = some o) : W p l e (rmx 7 1) s m args below meth c H locs 1 6 (gEX below args s D (xtys cI cB cZ cQ) (xcell g cI cB cZ cQ) xord g 1 false o) (F0 m 44 ls [.int t0]) := by
  unfold fX11_shared_b44 at hF
  cases hF
  exact t_iret C X (by decide) (by decide) dX11_shared_44
noncomputable def fX11_shared_b37 (N : Nat) (S : gS) : Option (tR) := fX11_shared_b44 N (S 52 3) S
theorem bX11_shared_37 {N : Nat} {S : gS} {H : Heap} {locs : List Loc} {ls : Array Slot} {o : tR} (C : gC p s m args meth c cX11_shared 2 RX11 ((some .int)) D (xtys cI cB cZ cQ) xord g Am) (O : tO l g cI cB cZ cQ Am aK aV) (Tb : ∀ x ∈ c.exceptionTable.toList, False) (X : gX D (xcell g cI cB cZ cQ) xord g S s H locs) (hl : lv_has ls 2 [(0, .ref (g 0))]) (hF : fX11_shared_b37 N S = some o) : W p l e (rmx 7 1) s m args below meth c H locs 1 6 (gEX below args s D (xtys cI cB cZ cQ) (xcell g cI cB cZ cQ) xord g 1 false o) (F0 m 37 ls []) := by
  unfold fX11_shared_b37 at hF
  refine lv_aload_n C.1.1 C.1.2.1 dX11_shared_37 rfl (lv_at hl 0 rfl) ?_
  refine xg_X11_43 C O.1.1 X (k := 0) rfl (j := 52) rfl dX11_shared_38 ?_
  refine xg_X11_298 C O.1.1 X (k := 52) rfl dX11_shared_41 ?_
  exact bX11_shared_44 C O Tb X (lv_sub hl [] rfl) hF
noncomputable def fX11_shared_b27 (N : Nat) (S : gS) : Option (tR) := fX11_shared_b44 N (S 52 2) S
theorem bX11_shared_27 {N : Nat} {S : gS} {H : Heap} {locs : List Loc} {ls : Array Slot} {o : tR} (C : gC p s m args meth c cX11_shared 2 RX11 ((some .int)) D (xtys cI cB cZ cQ) xord g Am) (O : tO l g cI cB cZ cQ Am aK aV) (Tb : ∀ x ∈ c.exceptionTable.toList, False) (X : gX D (xcell g cI cB cZ cQ) xord g S s H locs) (hl : lv_has ls 2 [(0, .ref (g 0))]) (hF : fX11_shared_b27 N S = some o) : W p l e (rmx 7 1) s m args below meth c H locs 1 6 (gEX below args s D (xtys cI cB cZ cQ) (xcell g cI cB cZ cQ) xord g 1 false o) (F0 m 27 ls []) := by
  unfold fX11_shared_b27 at hF
  refine lv_aload_n C.1.1 C.1.2.1 dX11_shared_27 rfl (lv_at hl 0 rfl) ?_
  refine xg_X11_43 C O.1.1 X (k := 0) rfl (j := 52) rfl dX11_shared_28 ?_
  refine xg_X11_297 C O.1.1 X (k := 52) rfl dX11_shared_31 ?_
  refine lv_goto (tgt := 44) C.1.1 C.1.2.1 dX11_shared_34 (by decide) ?_
  exact bX11_shared_44 C O Tb X (lv_sub hl [] rfl) hF
noncomputable def fX11_shared_b0 (N : Nat) (x1 : Int32) (S : gS) : Option (tR) := bnx (fX11_needWhat N x1 1 S) fun q1 => (lt (xtw q1.2.2) fun T1 => (bnd (fX6_share N T1 21 q1.2.2) fun q2 => (if x1 = 0 then fX11_shared_b27 N q2.2 else fX11_shared_b37 N q2.2)))
theorem bX11_shared_0 {N : Nat} {x1 : Int32} {S : gS} {H : Heap} {locs : List Loc} {ls : Array Slot} {o : tR} (C : gC p s m args meth c cX11_shared 2 RX11 ((some .int)) D (xtys cI cB cZ cQ) xord g Am) (O : tO l g cI cB cZ cQ Am aK aV) (Tb : ∀ x ∈ c.exceptionTable.toList, False) (X : gX D (xcell g cI cB cZ cQ) xord g S s H locs) (hl : lv_has ls 2 [(0, .ref (g 0)), (1, .int x1)]) (hF : fX11_shared_b0 N x1 S = some o) : W p l e (rmx 7 1) s m args below meth c H locs 0 0 (gEX below args s D (xtys cI cB cZ cQ) (xcell g cI cB cZ cQ) xord g 1 false o) (F0 m 0 ls []) := by
  unfold fX11_shared_b0 at hF
  refine lv_iload_n C.1.1 C.1.2.1 dX11_shared_0 rfl (lv_at hl 1 rfl) ?_
  refine lv_iconst (v := 1) C.1.1 C.1.2.1 dX11_shared_1 (by decide) ?_
  rcases (bnx_some hF).symm with ⟨q1, hq1, zq1, eo⟩ | ⟨q1, hq1, zq1, hF⟩
  · subst eo
    exact t_thr (t_preS C X xv_X11_236 (kX11_needWhat O C.2.2.2.2.1 N x1 1 S q1 hq1) (Nat.le_of_ble_eq_true rfl) (Nat.le_of_ble_eq_true rfl) (Nat.le_of_ble_eq_true rfl) (Nat.le_of_ble_eq_true rfl) rfl hl.1 rfl (Nat.le_of_ble_eq_true rfl) dX11_shared_2) zq1 C Tb X (by decide) (by decide)
  refine t_okv (t_preS C X xv_X11_236 (kX11_needWhat O C.2.2.2.2.1 N x1 1 S q1 hq1) (Nat.le_of_ble_eq_true rfl) (Nat.le_of_ble_eq_true rfl) (Nat.le_of_ble_eq_true rfl) (Nat.le_of_ble_eq_true rfl) rfl hl.1 rfl (Nat.le_of_ble_eq_true rfl) dX11_shared_2) zq1 X (fun H locs X => ?_)
  refine W.widen (k := 1) (n := 6) (by decide) (by decide) ?_
  refine lv_aload_n C.1.1 C.1.2.1 dX11_shared_5 rfl (lv_at hl 0 rfl) ?_
  refine xg_X11_43 C O.1.1 X (k := 0) rfl (j := 52) rfl dX11_shared_6 ?_
  refine lv_aload_n C.1.1 C.1.2.1 dX11_shared_9 rfl (lv_at hl 0 rfl) ?_
  obtain ⟨T1, eT1, hF⟩ := lt_some hF
  have hk_T1 := xtw_k eT1
  refine xg_X11_57 C O.1.1 X (T := T1) eT1 (k := 0) rfl dX11_shared_10 ?_
  refine lv_aload_n C.1.1 C.1.2.1 dX11_shared_13 rfl (lv_at hl 0 rfl) ?_
  refine xg_X11_19 C O.1.1 X (k := 0) rfl (j := 20) rfl dX11_shared_14 ?_
  refine xg_X11_105 C O.1.1 X (k := 20) rfl (j := 21) rfl dX11_shared_17 ?_
  obtain ⟨q2, hq2, hF⟩ := bnd_some hF
  refine x_callV C X (k := 52) xv_X11_293 (rfl : xk 52 = 6) rfl rfl (by decide) (kX6_share O.1 C.2.2.2.2.1 N T1 21 (hk_T1 : xk T1 = 9) (rfl : xk 21 = 7) q1.2.2 q2 hq2) (Nat.le_of_ble_eq_true rfl) (Nat.le_of_ble_eq_true rfl) (Nat.le_of_ble_eq_true rfl) (Nat.le_of_ble_eq_true rfl) rfl hl.1 rfl (Nat.le_of_ble_eq_true rfl) dX11_shared_20 (fun H locs X => ?_)
  refine lv_iload_n C.1.1 C.1.2.1 dX11_shared_23 rfl (lv_at hl 1 rfl) ?_
  refine lv_if_ne (tgt := 37) C.1.1 C.1.2.1 dX11_shared_24 (by decide) (fun h_z => ?_) (fun h_z => ?_)
  · rw [if_neg h_z] at hF
    exact bX11_shared_37 C O Tb X (lv_sub hl [0] rfl) hF
  · rw [if_pos h_z] at hF
    exact bX11_shared_27 C O Tb X (lv_sub hl [0] rfl) hF
noncomputable def fX11_shared (N : Nat) (x1 : Int32) (S : gS) : Option (tR) := fX11_shared_b0 N x1 S
theorem kX11_shared {l : Launch} {D : va_G} {g : Nat → Nat} {cI cB cZ cQ : ClassId} {Am : (Nat → Prop) → State → Heap → Prop} {aK aV : Nat → Nat} (O : tO l g cI cB cZ cQ Am aK aV) (P : gAm Am) (N : Nat) (x1 : Int32) (S : gS) (o : tR) (hF : fX11_shared N x1 S = some o) : gN l yX11_shared cX11_shared 2 ((some .int)) 7 1 D (xtys cI cB cZ cQ) (xcell g cI cB cZ cQ) xord g Am [.ref (g 0), .int x1] S false o :=
  gN_of P (by decide) (Nat.le_of_ble_eq_true rfl) (fun p e s m args below meth c ls C Tb X hl => bX11_shared_0 C O Tb X (lv_sub hl [0, 1] rfl) hF)
-- X11.has
noncomputable def fX11_has_b0 (N : Nat) (x1 : Int32) (S : gS) : Option (tR) := bnx (fX11_needGuild N x1 S) fun q1 => (lt (xtw q1.2.2) fun T1 => (bnd (fX6_share N T1 21 q1.2.2) fun q2 => (chk (inb x1 6) (some (0, q2.2 61 (Int32.toNatClampNeg x1), q2.2)))))
theorem bX11_has_0 {N : Nat} {x1 : Int32} {S : gS} {H : Heap} {locs : List Loc} {ls : Array Slot} {o : tR} (C : gC p s m args meth c cX11_has 2 RX11 ((some .int)) D (xtys cI cB cZ cQ) xord g Am) (O : tO l g cI cB cZ cQ Am aK aV) (Tb : ∀ x ∈ c.exceptionTable.toList, False) (X : gX D (xcell g cI cB cZ cQ) xord g S s H locs) (hl : lv_has ls 2 [(0, .ref (g 0)), (1, .int x1)]) (hF : fX11_has_b0 N x1 S = some o) : W p l e (rmx 7 1) s m args below meth c H locs 0 0 (gEX below args s D (xtys cI cB cZ cQ) (xcell g cI cB cZ cQ) xord g 1 false o) (F0 m 0 ls []) := by
  unfold fX11_has_b0 at hF
  refine lv_aload_n C.1.1 C.1.2.1 dX11_has_0 rfl (lv_at hl 0 rfl) ?_
  refine lv_iload_n C.1.1 C.1.2.1 dX11_has_1 rfl (lv_at hl 1 rfl) ?_
  rcases (bnx_some hF).symm with ⟨q1, hq1, zq1, eo⟩ | ⟨q1, hq1, zq1, hF⟩
  · subst eo
    exact t_thr (x_preT C X xv_X11_191 rfl (kX11_needGuild O C.2.2.2.2.1 N x1 S q1 hq1) (Nat.le_of_ble_eq_true rfl) (Nat.le_of_ble_eq_true rfl) (Nat.le_of_ble_eq_true rfl) (Nat.le_of_ble_eq_true rfl) rfl hl.1 rfl (Nat.le_of_ble_eq_true rfl) dX11_has_2) zq1 C Tb X (by decide) (by decide)
  refine t_okv (x_preT C X xv_X11_191 rfl (kX11_needGuild O C.2.2.2.2.1 N x1 S q1 hq1) (Nat.le_of_ble_eq_true rfl) (Nat.le_of_ble_eq_true rfl) (Nat.le_of_ble_eq_true rfl) (Nat.le_of_ble_eq_true rfl) rfl hl.1 rfl (Nat.le_of_ble_eq_true rfl) dX11_has_2) zq1 X (fun H locs X => ?_)
  refine W.widen (k := 1) (n := 6) (by decide) (by decide) ?_
  refine lv_aload_n C.1.1 C.1.2.1 dX11_has_5 rfl (lv_at hl 0 rfl) ?_
  refine xg_X11_43 C O.1.1 X (k := 0) rfl (j := 52) rfl dX11_has_6 ?_
  refine lv_aload_n C.1.1 C.1.2.1 dX11_has_9 rfl (lv_at hl 0 rfl) ?_
  obtain ⟨T1, eT1, hF⟩ := lt_some hF
  have hk_T1 := xtw_k eT1
  refine xg_X11_57 C O.1.1 X (T := T1) eT1 (k := 0) rfl dX11_has_10 ?_
  refine lv_aload_n C.1.1 C.1.2.1 dX11_has_13 rfl (lv_at hl 0 rfl) ?_
  refine xg_X11_19 C O.1.1 X (k := 0) rfl (j := 20) rfl dX11_has_14 ?_
  refine xg_X11_105 C O.1.1 X (k := 20) rfl (j := 21) rfl dX11_has_17 ?_
  obtain ⟨q2, hq2, hF⟩ := bnd_some hF
  refine x_callV C X (k := 52) xv_X11_293 (rfl : xk 52 = 6) rfl rfl (by decide) (kX6_share O.1 C.2.2.2.2.1 N T1 21 (hk_T1 : xk T1 = 9) (rfl : xk 21 = 7) q1.2.2 q2 hq2) (Nat.le_of_ble_eq_true rfl) (Nat.le_of_ble_eq_true rfl) (Nat.le_of_ble_eq_true rfl) (Nat.le_of_ble_eq_true rfl) rfl hl.1 rfl (Nat.le_of_ble_eq_true rfl) dX11_has_20 (fun H locs X => ?_)
  refine lv_aload_n C.1.1 C.1.2.1 dX11_has_23 rfl (lv_at hl 0 rfl) ?_
  refine xg_X11_43 C O.1.1 X (k := 0) rfl (j := 52) rfl dX11_has_24 ?_
  refine xg_X11_301 C O.1.1 X (k := 52) rfl (j := 61) rfl dX11_has_27 ?_
  refine lv_iload_n C.1.1 C.1.2.1 dX11_has_30 rfl (lv_at hl 1 rfl) ?_
  obtain ⟨h_1, hF⟩ := chk_some hF
  refine x_rI C X (k := 61) rfl (n := 6) rfl  (inb_vp h_1) rfl dX11_has_31 ?_
  cases hF
  exact t_iret C X (by decide) (by decide) dX11_has_32
noncomputable def fX11_has (N : Nat) (x1 : Int32) (S : gS) : Option (tR) := fX11_has_b0 N x1 S
theorem kX11_has {l : Launch} {D : va_G} {g : Nat → Nat} {cI cB cZ cQ : ClassId} {Am : (Nat → Prop) → State → Heap → Prop} {aK aV : Nat → Nat} (O : tO l g cI cB cZ cQ Am aK aV) (P : gAm Am) (N : Nat) (x1 : Int32) (S : gS) (o : tR) (hF : fX11_has N x1 S = some o) : gN l yX11_has cX11_has 2 ((some .int)) 7 1 D (xtys cI cB cZ cQ) (xcell g cI cB cZ cQ) xord g Am [.ref (g 0), .int x1] S false o :=
  gN_of P (by decide) (Nat.le_of_ble_eq_true rfl) (fun p e s m args below meth c ls C Tb X hl => bX11_has_0 C O Tb X (lv_sub hl [0, 1] rfl) hF)
-- X11.toGive
noncomputable def fX11_toGive_b69 (N : Nat) (x1 : Int32) (x2 : Int32) (S : gS) : Option (tR) := bnd (fX11_leastByHalves N x1 x2 S) fun q1 => (some (0, q1.1, q1.2))
theorem bX11_toGive_69 {N : Nat} {x1 : Int32} {x2 : Int32} {S : gS} {H : Heap} {locs : List Loc} {ls : Array Slot} {o : tR} (C : gC p s m args meth c cX11_toGive 3 RX11 ((some .int)) D (xtys cI cB cZ cQ) xord g Am) (O : tO l g cI cB cZ cQ Am aK aV) (Tb : ∀ x ∈ c.exceptionTable.toList, False) (X : gX D (xcell g cI cB cZ cQ) xord g S s H locs) (hl : lv_has ls 3 [(0, .ref (g 0)), (1, .int x1), (2, .int x2)]) (hF : fX11_toGive_b69 N x1 x2 S = some o) : W p l e (rmx 7 2) s m args below meth c H locs 2 12 (gEX below args s D (xtys cI cB cZ cQ) (xcell g cI cB cZ cQ) xord g 2 false o) (F0 m 69 ls []) := by
  unfold fX11_toGive_b69 at hF
  refine lv_aload_n C.1.1 C.1.2.1 dX11_toGive_69 rfl (lv_at hl 0 rfl) ?_
  refine lv_iload_n C.1.1 C.1.2.1 dX11_toGive_70 rfl (lv_at hl 1 rfl) ?_
  refine lv_iload_n C.1.1 C.1.2.1 dX11_toGive_71 rfl (lv_at hl 2 rfl) ?_
  obtain ⟨q1, hq1, hF⟩ := bnd_some hF
  refine x_callVi C X (k := 0) xv_X11_319 (rfl : xk 0 = 11) rfl rfl (by decide) (kX11_leastByHalves O.1.1 C.2.2.2.2.1 N x1 x2 S q1 hq1) (Nat.le_of_ble_eq_true rfl) (Nat.le_of_ble_eq_true rfl) (Nat.le_of_ble_eq_true rfl) (Nat.le_of_ble_eq_true rfl) rfl hl.1 rfl (Nat.le_of_ble_eq_true rfl) dX11_toGive_72 (fun H locs X => ?_)
  cases hF
  exact t_iret C X (by decide) (by decide) dX11_toGive_75
noncomputable def fX11_toGive_b62 (N : Nat) (x1 : Int32) (x2 : Int32) (S : gS) : Option (tR) := bnd (fX11_leastOfAllPurses N x1 x2 S) fun q1 => (some (0, q1.1, q1.2))
theorem bX11_toGive_62 {N : Nat} {x1 : Int32} {x2 : Int32} {S : gS} {H : Heap} {locs : List Loc} {ls : Array Slot} {o : tR} (C : gC p s m args meth c cX11_toGive 3 RX11 ((some .int)) D (xtys cI cB cZ cQ) xord g Am) (O : tO l g cI cB cZ cQ Am aK aV) (Tb : ∀ x ∈ c.exceptionTable.toList, False) (X : gX D (xcell g cI cB cZ cQ) xord g S s H locs) (hl : lv_has ls 3 [(0, .ref (g 0)), (1, .int x1), (2, .int x2)]) (hF : fX11_toGive_b62 N x1 x2 S = some o) : W p l e (rmx 7 2) s m args below meth c H locs 2 12 (gEX below args s D (xtys cI cB cZ cQ) (xcell g cI cB cZ cQ) xord g 2 false o) (F0 m 62 ls []) := by
  unfold fX11_toGive_b62 at hF
  refine lv_aload_n C.1.1 C.1.2.1 dX11_toGive_62 rfl (lv_at hl 0 rfl) ?_
  refine lv_iload_n C.1.1 C.1.2.1 dX11_toGive_63 rfl (lv_at hl 1 rfl) ?_
  refine lv_iload_n C.1.1 C.1.2.1 dX11_toGive_64 rfl (lv_at hl 2 rfl) ?_
  obtain ⟨q1, hq1, hF⟩ := bnd_some hF
  refine x_callVi C X (k := 0) xv_X11_316 (rfl : xk 0 = 11) rfl rfl (by decide) (kX11_leastOfAllPurses O.1.1 C.2.2.2.2.1 N x1 x2 S q1 hq1) (Nat.le_of_ble_eq_true rfl) (Nat.le_of_ble_eq_true rfl) (Nat.le_of_ble_eq_true rfl) (Nat.le_of_ble_eq_true rfl) rfl hl.1 rfl (Nat.le_of_ble_eq_true rfl) dX11_toGive_65 (fun H locs X => ?_)
  cases hF
  exact t_iret C X (by decide) (by decide) dX11_toGive_68
noncomputable def fX11_toGive_b46 (N : Nat) (x1 : Int32) (x2 : Int32) (S : gS) : Option (tR) := lt (xtw S) fun T1 => (bnd (fX4_minds N (T1 + 13) 10001 S) fun q1 => (if q1.1 = 0 then fX11_toGive_b69 N x1 x2 q1.2 else fX11_toGive_b62 N x1 x2 q1.2))
theorem bX11_toGive_46 {N : Nat} {x1 : Int32} {x2 : Int32} {S : gS} {H : Heap} {locs : List Loc} {ls : Array Slot} {o : tR} (C : gC p s m args meth c cX11_toGive 3 RX11 ((some .int)) D (xtys cI cB cZ cQ) xord g Am) (O : tO l g cI cB cZ cQ Am aK aV) (Tb : ∀ x ∈ c.exceptionTable.toList, False) (X : gX D (xcell g cI cB cZ cQ) xord g S s H locs) (hl : lv_has ls 3 [(0, .ref (g 0)), (1, .int x1), (2, .int x2)]) (hF : fX11_toGive_b46 N x1 x2 S = some o) : W p l e (rmx 7 2) s m args below meth c H locs 2 12 (gEX below args s D (xtys cI cB cZ cQ) (xcell g cI cB cZ cQ) xord g 2 false o) (F0 m 46 ls []) := by
  unfold fX11_toGive_b46 at hF
  refine lv_aload_n C.1.1 C.1.2.1 dX11_toGive_46 rfl (lv_at hl 0 rfl) ?_
  obtain ⟨T1, eT1, hF⟩ := lt_some hF
  have hk_T1 := xtw_k eT1
  refine xg_X11_57 C O.1.1 X (T := T1) eT1 (k := 0) rfl dX11_toGive_47 ?_
  refine xg_X11_313 C O.1.1 X (k := T1) hk_T1 (j := T1 + 13) rfl dX11_toGive_50 ?_
  refine lv_sipush (v := 10001) C.1.1 C.1.2.1 dX11_toGive_53 (by decide) ?_
  obtain ⟨q1, hq1, hF⟩ := bnd_some hF
  refine x_callVi C X (k := T1 + 13) xv_X11_308 (xs_9_14 hk_T1) rfl rfl (by decide) (kX4_minds O.1.1 C.2.2.2.2.1 N (T1 + 13) 10001 ((xs_9_14 hk_T1) : xk (T1 + 13) = 4) S q1 hq1) (Nat.le_of_ble_eq_true rfl) (Nat.le_of_ble_eq_true rfl) (Nat.le_of_ble_eq_true rfl) (Nat.le_of_ble_eq_true rfl) rfl hl.1 rfl (Nat.le_of_ble_eq_true rfl) dX11_toGive_56 (fun H locs X => ?_)
  refine lv_if_eq (tgt := 69) C.1.1 C.1.2.1 dX11_toGive_59 (by decide) (fun h_z => ?_) (fun h_z => ?_)
  · rw [if_pos h_z] at hF
    exact bX11_toGive_69 C O Tb X (lv_sub hl [0, 1, 2] rfl) hF
  · rw [if_neg h_z] at hF
    exact bX11_toGive_62 C O Tb X (lv_sub hl [0, 1, 2] rfl) hF
noncomputable def fX11_toGive_b30 (N : Nat) (x1 : Int32) (x2 : Int32) (S : gS) : Option (tR) := lt (xtw S) fun T1 => (bnd (fX4_minds N (T1 + 10) 10001 S) fun q1 => (if q1.1 = 0 then fX11_toGive_b46 N x1 x2 q1.2 else fX11_toGive_b62 N x1 x2 q1.2))
theorem bX11_toGive_30 {N : Nat} {x1 : Int32} {x2 : Int32} {S : gS} {H : Heap} {locs : List Loc} {ls : Array Slot} {o : tR} (C : gC p s m args meth c cX11_toGive 3 RX11 ((some .int)) D (xtys cI cB cZ cQ) xord g Am) (O : tO l g cI cB cZ cQ Am aK aV) (Tb : ∀ x ∈ c.exceptionTable.toList, False) (X : gX D (xcell g cI cB cZ cQ) xord g S s H locs) (hl : lv_has ls 3 [(0, .ref (g 0)), (1, .int x1), (2, .int x2)]) (hF : fX11_toGive_b30 N x1 x2 S = some o) : W p l e (rmx 7 2) s m args below meth c H locs 2 12 (gEX below args s D (xtys cI cB cZ cQ) (xcell g cI cB cZ cQ) xord g 2 false o) (F0 m 30 ls []) := by
  unfold fX11_toGive_b30 at hF
  refine lv_aload_n C.1.1 C.1.2.1 dX11_toGive_30 rfl (lv_at hl 0 rfl) ?_
  obtain ⟨T1, eT1, hF⟩ := lt_some hF
  have hk_T1 := xtw_k eT1
  refine xg_X11_57 C O.1.1 X (T := T1) eT1 (k := 0) rfl dX11_toGive_31 ?_
  refine xg_X11_304 C O.1.1 X (k := T1) hk_T1 (j := T1 + 10) rfl dX11_toGive_34 ?_
  refine lv_sipush (v := 10001) C.1.1 C.1.2.1 dX11_toGive_37 (by decide) ?_
  obtain ⟨q1, hq1, hF⟩ := bnd_some hF
  refine x_callVi C X (k := T1 + 10) xv_X11_308 (xs_9_13 hk_T1) rfl rfl (by decide) (kX4_minds O.1.1 C.2.2.2.2.1 N (T1 + 10) 10001 ((xs_9_13 hk_T1) : xk (T1 + 10) = 4) S q1 hq1) (Nat.le_of_ble_eq_true rfl) (Nat.le_of_ble_eq_true rfl) (Nat.le_of_ble_eq_true rfl) (Nat.le_of_ble_eq_true rfl) rfl hl.1 rfl (Nat.le_of_ble_eq_true rfl) dX11_toGive_40 (fun H locs X => ?_)
  refine lv_if_ne (tgt := 62) C.1.1 C.1.2.1 dX11_toGive_43 (by decide) (fun h_z => ?_) (fun h_z => ?_)
  · rw [if_neg h_z] at hF
    exact bX11_toGive_62 C O Tb X (lv_sub hl [0, 1, 2] rfl) hF
  · rw [if_pos h_z] at hF
    exact bX11_toGive_46 C O Tb X (lv_sub hl [0, 1, 2] rfl) hF
noncomputable def fX11_toGive_b28 (N : Nat) (S : gS) : Option (tR) := some (0, (-1), S)
theorem bX11_toGive_28 {N : Nat} {S : gS} {H : Heap} {locs : List Loc} {ls : Array Slot} {o : tR} (C : gC p s m args meth c cX11_toGive 3 RX11 ((some .int)) D (xtys cI cB cZ cQ) xord g Am) (O : tO l g cI cB cZ cQ Am aK aV) (Tb : ∀ x ∈ c.exceptionTable.toList, False) (X : gX D (xcell g cI cB cZ cQ) xord g S s H locs) (hl : lv_has ls 3 []) (hF : fX11_toGive_b28 N S = some o) : W p l e (rmx 7 2) s m args below meth c H locs 2 12 (gEX below args s D (xtys cI cB cZ cQ) (xcell g cI cB cZ cQ) xord g 2 false o) (F0 m 28 ls []) := by
  unfold fX11_toGive_b28 at hF
  refine lv_iconst (v := (-1)) C.1.1 C.1.2.1 dX11_toGive_28 (by decide) ?_
  cases hF
  exact t_iret (x := (-1)) C X (by decide) (by decide) dX11_toGive_29
noncomputable def fX11_toGive_b0 (N : Nat) (x1 : Int32) (x2 : Int32) (S : gS) : Option (tR) := bnx (fX11_needGuild N x1 S) fun q1 => (bnx (fX11_needWithin N x2 1 60 q1.2.2) fun q2 => (chk (inb x1 6) (if (q2.2.2 25 (Int32.toNatClampNeg x1)) = ((-1)) then fX11_toGive_b28 N q2.2.2 else fX11_toGive_b30 N x1 x2 q2.2.2)))
theorem bX11_toGive_0 {N : Nat} {x1 : Int32} {x2 : Int32} {S : gS} {H : Heap} {locs : List Loc} {ls : Array Slot} {o : tR} (C : gC p s m args meth c cX11_toGive 3 RX11 ((some .int)) D (xtys cI cB cZ cQ) xord g Am) (O : tO l g cI cB cZ cQ Am aK aV) (Tb : ∀ x ∈ c.exceptionTable.toList, False) (X : gX D (xcell g cI cB cZ cQ) xord g S s H locs) (hl : lv_has ls 3 [(0, .ref (g 0)), (1, .int x1), (2, .int x2)]) (hF : fX11_toGive_b0 N x1 x2 S = some o) : W p l e (rmx 7 2) s m args below meth c H locs 0 0 (gEX below args s D (xtys cI cB cZ cQ) (xcell g cI cB cZ cQ) xord g 2 false o) (F0 m 0 ls []) := by
  unfold fX11_toGive_b0 at hF
  refine lv_aload_n C.1.1 C.1.2.1 dX11_toGive_0 rfl (lv_at hl 0 rfl) ?_
  refine lv_iload_n C.1.1 C.1.2.1 dX11_toGive_1 rfl (lv_at hl 1 rfl) ?_
  rcases (bnx_some hF).symm with ⟨q1, hq1, zq1, eo⟩ | ⟨q1, hq1, zq1, hF⟩
  · subst eo
    exact t_thr (x_preT C X xv_X11_191 rfl (kX11_needGuild O C.2.2.2.2.1 N x1 S q1 hq1) (Nat.le_of_ble_eq_true rfl) (Nat.le_of_ble_eq_true rfl) (Nat.le_of_ble_eq_true rfl) (Nat.le_of_ble_eq_true rfl) rfl hl.1 rfl (Nat.le_of_ble_eq_true rfl) dX11_toGive_2) zq1 C Tb X (by decide) (by decide)
  refine t_okv (x_preT C X xv_X11_191 rfl (kX11_needGuild O C.2.2.2.2.1 N x1 S q1 hq1) (Nat.le_of_ble_eq_true rfl) (Nat.le_of_ble_eq_true rfl) (Nat.le_of_ble_eq_true rfl) (Nat.le_of_ble_eq_true rfl) rfl hl.1 rfl (Nat.le_of_ble_eq_true rfl) dX11_toGive_2) zq1 X (fun H locs X => ?_)
  refine W.widen (k := 1) (n := 6) (by decide) (by decide) ?_
  refine lv_iload_n C.1.1 C.1.2.1 dX11_toGive_5 rfl (lv_at hl 2 rfl) ?_
  refine lv_iconst (v := 1) C.1.1 C.1.2.1 dX11_toGive_6 (by decide) ?_
  refine lv_bipush (v := 60) C.1.1 C.1.2.1 dX11_toGive_7 (by decide) ?_
  rcases (bnx_some hF).symm with ⟨q2, hq2, zq2, eo⟩ | ⟨q2, hq2, zq2, hF⟩
  · subst eo
    exact t_thr (t_preS C X xv_X11_239 (kX11_needWithin O C.2.2.2.2.1 N x2 1 60 q1.2.2 q2 hq2) (Nat.le_of_ble_eq_true rfl) (Nat.le_of_ble_eq_true rfl) (Nat.le_of_ble_eq_true rfl) (Nat.le_of_ble_eq_true rfl) rfl hl.1 rfl (Nat.le_of_ble_eq_true rfl) dX11_toGive_9) zq2 C Tb X (by decide) (by decide)
  refine t_okv (t_preS C X xv_X11_239 (kX11_needWithin O C.2.2.2.2.1 N x2 1 60 q1.2.2 q2 hq2) (Nat.le_of_ble_eq_true rfl) (Nat.le_of_ble_eq_true rfl) (Nat.le_of_ble_eq_true rfl) (Nat.le_of_ble_eq_true rfl) rfl hl.1 rfl (Nat.le_of_ble_eq_true rfl) dX11_toGive_9) zq2 X (fun H locs X => ?_)
  refine W.widen (k := 2) (n := 12) (by decide) (by decide) ?_
  refine lv_aload_n C.1.1 C.1.2.1 dX11_toGive_12 rfl (lv_at hl 0 rfl) ?_
  refine xg_X11_19 C O.1.1 X (k := 0) rfl (j := 20) rfl dX11_toGive_13 ?_
  refine xg_X11_105 C O.1.1 X (k := 20) rfl (j := 21) rfl dX11_toGive_16 ?_
  refine xg_X11_206 C O.1.1 X (k := 21) rfl (j := 25) rfl dX11_toGive_19 ?_
  refine lv_iload_n C.1.1 C.1.2.1 dX11_toGive_22 rfl (lv_at hl 1 rfl) ?_
  obtain ⟨h_1, hF⟩ := chk_some hF
  refine x_rI C X (k := 25) rfl (n := 6) rfl  (inb_vp h_1) rfl dX11_toGive_23 ?_
  refine lv_iconst (v := (-1)) C.1.1 C.1.2.1 dX11_toGive_24 (by decide) ?_
  refine lv_icmp_ne (tgt := 30) C.1.1 C.1.2.1 dX11_toGive_25 (by decide) (fun h_z => ?_) (fun h_z => ?_)
  · rw [if_neg h_z] at hF
    exact bX11_toGive_30 C O Tb X (lv_sub hl [0, 1, 2] rfl) hF
  · rw [if_pos h_z] at hF
    exact bX11_toGive_28 C O Tb X (lv_sub hl [] rfl) hF
noncomputable def fX11_toGive (N : Nat) (x1 : Int32) (x2 : Int32) (S : gS) : Option (tR) := fX11_toGive_b0 N x1 x2 S
theorem kX11_toGive {l : Launch} {D : va_G} {g : Nat → Nat} {cI cB cZ cQ : ClassId} {Am : (Nat → Prop) → State → Heap → Prop} {aK aV : Nat → Nat} (O : tO l g cI cB cZ cQ Am aK aV) (P : gAm Am) (N : Nat) (x1 : Int32) (x2 : Int32) (S : gS) (o : tR) (hF : fX11_toGive N x1 x2 S = some o) : gN l yX11_toGive cX11_toGive 3 ((some .int)) 7 2 D (xtys cI cB cZ cQ) (xcell g cI cB cZ cQ) xord g Am [.ref (g 0), .int x1, .int x2] S false o :=
  gN_of P (by decide) (Nat.le_of_ble_eq_true rfl) (fun p e s m args below meth c ls C Tb X hl => bX11_toGive_0 C O Tb X (lv_sub hl [0, 1, 2] rfl) hF)
-- X11.confessing
noncomputable def fX11_confessing_b31 (N : Nat) (x1 : Int32) (x2 : Int32) (S : gS) : Option (tR) := lt (xtw S) fun T1 => (bnd (fX10_begin N T1 21 x1 S) fun q1 => (lt (xtw q1.2) fun T2 => (bnd (fX10_passHours N T2 x2 q1.2) fun q2 => (lt (xtw q2.2) fun T3 => (bnd (fX10_begin N T3 21 x1 q2.2) fun q3 => (bnd (fX10_repent N q3.2) fun q4 => (lt (xtw q4.2) fun T4 => (bnd (fX10_passHours N T4 x2 q4.2) fun q5 => (some (0, ((q2.2 51 1) - (q5.2 51 1) : Int32), q5.2))))))))))
theorem bX11_confessing_31 {N : Nat} {x1 : Int32} {x2 : Int32} {S : gS} {H : Heap} {locs : List Loc} {ls : Array Slot} {o : tR} (C : gC p s m args meth c cX11_confessing 4 RX11 ((some .int)) D (xtys cI cB cZ cQ) xord g Am) (O : tO l g cI cB cZ cQ Am aK aV) (Tb : ∀ x ∈ c.exceptionTable.toList, False) (X : gX D (xcell g cI cB cZ cQ) xord g S s H locs) (hl : lv_has ls 4 [(0, .ref (g 0)), (1, .int x1), (2, .int x2)]) (hF : fX11_confessing_b31 N x1 x2 S = some o) : W p l e (rmx 7 2) s m args below meth c H locs 2 12 (gEX below args s D (xtys cI cB cZ cQ) (xcell g cI cB cZ cQ) xord g 2 false o) (F0 m 31 ls []) := by
  unfold fX11_confessing_b31 at hF
  refine lv_aload_n C.1.1 C.1.2.1 dX11_confessing_31 rfl (lv_at hl 0 rfl) ?_
  refine xg_X11_36 C O.1.1 X (k := 0) rfl (j := 51) rfl dX11_confessing_32 ?_
  refine lv_aload_n C.1.1 C.1.2.1 dX11_confessing_35 rfl (lv_at hl 0 rfl) ?_
  obtain ⟨T1, eT1, hF⟩ := lt_some hF
  have hk_T1 := xtw_k eT1
  refine xg_X11_57 C O.1.1 X (T := T1) eT1 (k := 0) rfl dX11_confessing_36 ?_
  refine lv_aload_n C.1.1 C.1.2.1 dX11_confessing_39 rfl (lv_at hl 0 rfl) ?_
  refine xg_X11_19 C O.1.1 X (k := 0) rfl (j := 20) rfl dX11_confessing_40 ?_
  refine xg_X11_105 C O.1.1 X (k := 20) rfl (j := 21) rfl dX11_confessing_43 ?_
  refine lv_iload_n C.1.1 C.1.2.1 dX11_confessing_46 rfl (lv_at hl 1 rfl) ?_
  obtain ⟨q1, hq1, hF⟩ := bnd_some hF
  refine x_callV C X (k := 51) xv_X11_243 (rfl : xk 51 = 10) rfl rfl (by decide) (kX10_begin O.1.1 C.2.2.2.2.1 N T1 21 x1 (hk_T1 : xk T1 = 9) (rfl : xk 21 = 7) S q1 hq1) (Nat.le_of_ble_eq_true rfl) (Nat.le_of_ble_eq_true rfl) (Nat.le_of_ble_eq_true rfl) (Nat.le_of_ble_eq_true rfl) rfl hl.1 rfl (Nat.le_of_ble_eq_true rfl) dX11_confessing_47 (fun H locs X => ?_)
  refine lv_aload_n C.1.1 C.1.2.1 dX11_confessing_50 rfl (lv_at hl 0 rfl) ?_
  refine xg_X11_36 C O.1.1 X (k := 0) rfl (j := 51) rfl dX11_confessing_51 ?_
  refine lv_aload_n C.1.1 C.1.2.1 dX11_confessing_54 rfl (lv_at hl 0 rfl) ?_
  obtain ⟨T2, eT2, hF⟩ := lt_some hF
  have hk_T2 := xtw_k eT2
  refine xg_X11_57 C O.1.1 X (T := T2) eT2 (k := 0) rfl dX11_confessing_55 ?_
  refine lv_iload_n C.1.1 C.1.2.1 dX11_confessing_58 rfl (lv_at hl 2 rfl) ?_
  obtain ⟨q2, hq2, hF⟩ := bnd_some hF
  refine x_callV C X (k := 51) xv_X11_246 (rfl : xk 51 = 10) rfl rfl (by decide) (kX10_passHours O.1.1 C.2.2.2.2.1 N T2 x2 (hk_T2 : xk T2 = 9) q1.2 q2 hq2) (Nat.le_of_ble_eq_true rfl) (Nat.le_of_ble_eq_true rfl) (Nat.le_of_ble_eq_true rfl) (Nat.le_of_ble_eq_true rfl) rfl hl.1 rfl (Nat.le_of_ble_eq_true rfl) dX11_confessing_59 (fun H locs X => ?_)
  refine lv_aload_n C.1.1 C.1.2.1 dX11_confessing_62 rfl (lv_at hl 0 rfl) ?_
  refine xg_X11_36 C O.1.1 X (k := 0) rfl (j := 51) rfl dX11_confessing_63 ?_
  refine xg_X11_250 C O.1.1 X (k := 51) rfl dX11_confessing_66 ?_
  refine lv_istore_n (lv' := [(3, .int (q2.2 51 1)), (0, .ref (g 0)), (1, .int x1), (2, .int x2)]) C.1.1 C.1.2.1 dX11_confessing_69 rfl hl (by decide) rfl (fun ls hl => ?_)
  refine lv_aload_n C.1.1 C.1.2.1 dX11_confessing_70 rfl (lv_at hl 1 rfl) ?_
  refine xg_X11_36 C O.1.1 X (k := 0) rfl (j := 51) rfl dX11_confessing_71 ?_
  refine lv_aload_n C.1.1 C.1.2.1 dX11_confessing_74 rfl (lv_at hl 1 rfl) ?_
  obtain ⟨T3, eT3, hF⟩ := lt_some hF
  have hk_T3 := xtw_k eT3
  refine xg_X11_57 C O.1.1 X (T := T3) eT3 (k := 0) rfl dX11_confessing_75 ?_
  refine lv_aload_n C.1.1 C.1.2.1 dX11_confessing_78 rfl (lv_at hl 1 rfl) ?_
  refine xg_X11_19 C O.1.1 X (k := 0) rfl (j := 20) rfl dX11_confessing_79 ?_
  refine xg_X11_105 C O.1.1 X (k := 20) rfl (j := 21) rfl dX11_confessing_82 ?_
  refine lv_iload_n C.1.1 C.1.2.1 dX11_confessing_85 rfl (lv_at hl 2 rfl) ?_
  obtain ⟨q3, hq3, hF⟩ := bnd_some hF
  refine x_callV C X (k := 51) xv_X11_243 (rfl : xk 51 = 10) rfl rfl (by decide) (kX10_begin O.1.1 C.2.2.2.2.1 N T3 21 x1 (hk_T3 : xk T3 = 9) (rfl : xk 21 = 7) q2.2 q3 hq3) (Nat.le_of_ble_eq_true rfl) (Nat.le_of_ble_eq_true rfl) (Nat.le_of_ble_eq_true rfl) (Nat.le_of_ble_eq_true rfl) rfl hl.1 rfl (Nat.le_of_ble_eq_true rfl) dX11_confessing_86 (fun H locs X => ?_)
  refine lv_aload_n C.1.1 C.1.2.1 dX11_confessing_89 rfl (lv_at hl 1 rfl) ?_
  refine xg_X11_36 C O.1.1 X (k := 0) rfl (j := 51) rfl dX11_confessing_90 ?_
  obtain ⟨q4, hq4, hF⟩ := bnd_some hF
  refine x_callV C X (k := 51) xv_X11_322 (rfl : xk 51 = 10) rfl rfl (by decide) (kX10_repent O.1.1 C.2.2.2.2.1 N q3.2 q4 hq4) (Nat.le_of_ble_eq_true rfl) (Nat.le_of_ble_eq_true rfl) (Nat.le_of_ble_eq_true rfl) (Nat.le_of_ble_eq_true rfl) rfl hl.1 rfl (Nat.le_of_ble_eq_true rfl) dX11_confessing_93 (fun H locs X => ?_)
  refine lv_aload_n C.1.1 C.1.2.1 dX11_confessing_96 rfl (lv_at hl 1 rfl) ?_
  refine xg_X11_36 C O.1.1 X (k := 0) rfl (j := 51) rfl dX11_confessing_97 ?_
  refine lv_aload_n C.1.1 C.1.2.1 dX11_confessing_100 rfl (lv_at hl 1 rfl) ?_
  obtain ⟨T4, eT4, hF⟩ := lt_some hF
  have hk_T4 := xtw_k eT4
  refine xg_X11_57 C O.1.1 X (T := T4) eT4 (k := 0) rfl dX11_confessing_101 ?_
  refine lv_iload_n C.1.1 C.1.2.1 dX11_confessing_104 rfl (lv_at hl 3 rfl) ?_
  obtain ⟨q5, hq5, hF⟩ := bnd_some hF
  refine x_callV C X (k := 51) xv_X11_246 (rfl : xk 51 = 10) rfl rfl (by decide) (kX10_passHours O.1.1 C.2.2.2.2.1 N T4 x2 (hk_T4 : xk T4 = 9) q4.2 q5 hq5) (Nat.le_of_ble_eq_true rfl) (Nat.le_of_ble_eq_true rfl) (Nat.le_of_ble_eq_true rfl) (Nat.le_of_ble_eq_true rfl) rfl hl.1 rfl (Nat.le_of_ble_eq_true rfl) dX11_confessing_105 (fun H locs X => ?_)
  refine lv_iload_n C.1.1 C.1.2.1 dX11_confessing_108 rfl (lv_at hl 0 rfl) ?_
  refine lv_aload_n C.1.1 C.1.2.1 dX11_confessing_109 rfl (lv_at hl 1 rfl) ?_
  refine xg_X11_36 C O.1.1 X (k := 0) rfl (j := 51) rfl dX11_confessing_110 ?_
  refine xg_X11_250 C O.1.1 X (k := 51) rfl dX11_confessing_113 ?_
  refine lv_isub C.1.1 C.1.2.1 dX11_confessing_116 ?_
  cases hF
  exact t_iret C X (by decide) (by decide) dX11_confessing_117
noncomputable def fX11_confessing_b29 (N : Nat) (S : gS) : Option (tR) := some (0, 0, S)
theorem bX11_confessing_29 {N : Nat} {S : gS} {H : Heap} {locs : List Loc} {ls : Array Slot} {o : tR} (C : gC p s m args meth c cX11_confessing 4 RX11 ((some .int)) D (xtys cI cB cZ cQ) xord g Am) (O : tO l g cI cB cZ cQ Am aK aV) (Tb : ∀ x ∈ c.exceptionTable.toList, False) (X : gX D (xcell g cI cB cZ cQ) xord g S s H locs) (hl : lv_has ls 4 []) (hF : fX11_confessing_b29 N S = some o) : W p l e (rmx 7 2) s m args below meth c H locs 2 12 (gEX below args s D (xtys cI cB cZ cQ) (xcell g cI cB cZ cQ) xord g 2 false o) (F0 m 29 ls []) := by
  unfold fX11_confessing_b29 at hF
  refine lv_iconst (v := 0) C.1.1 C.1.2.1 dX11_confessing_29 (by decide) ?_
  cases hF
  exact t_iret (x := 0) C X (by decide) (by decide) dX11_confessing_30
noncomputable def fX11_confessing_b0 (N : Nat) (x1 : Int32) (x2 : Int32) (S : gS) : Option (tR) := bnx (fX11_needGuild N x1 S) fun q1 => (bnx (fX11_needWithin N x2 0 60 q1.2.2) fun q2 => (chk (inb x1 6) (if 50 ≤ (q2.2.2 23 (Int32.toNatClampNeg x1)) then fX11_confessing_b31 N x1 x2 q2.2.2 else fX11_confessing_b29 N q2.2.2)))
theorem bX11_confessing_0 {N : Nat} {x1 : Int32} {x2 : Int32} {S : gS} {H : Heap} {locs : List Loc} {ls : Array Slot} {o : tR} (C : gC p s m args meth c cX11_confessing 4 RX11 ((some .int)) D (xtys cI cB cZ cQ) xord g Am) (O : tO l g cI cB cZ cQ Am aK aV) (Tb : ∀ x ∈ c.exceptionTable.toList, False) (X : gX D (xcell g cI cB cZ cQ) xord g S s H locs) (hl : lv_has ls 4 [(0, .ref (g 0)), (1, .int x1), (2, .int x2)]) (hF : fX11_confessing_b0 N x1 x2 S = some o) : W p l e (rmx 7 2) s m args below meth c H locs 0 0 (gEX below args s D (xtys cI cB cZ cQ) (xcell g cI cB cZ cQ) xord g 2 false o) (F0 m 0 ls []) := by
  unfold fX11_confessing_b0 at hF
  refine lv_aload_n C.1.1 C.1.2.1 dX11_confessing_0 rfl (lv_at hl 0 rfl) ?_
  refine lv_iload_n C.1.1 C.1.2.1 dX11_confessing_1 rfl (lv_at hl 1 rfl) ?_
  rcases (bnx_some hF).symm with ⟨q1, hq1, zq1, eo⟩ | ⟨q1, hq1, zq1, hF⟩
  · subst eo
    exact t_thr (x_preT C X xv_X11_191 rfl (kX11_needGuild O C.2.2.2.2.1 N x1 S q1 hq1) (Nat.le_of_ble_eq_true rfl) (Nat.le_of_ble_eq_true rfl) (Nat.le_of_ble_eq_true rfl) (Nat.le_of_ble_eq_true rfl) rfl hl.1 rfl (Nat.le_of_ble_eq_true rfl) dX11_confessing_2) zq1 C Tb X (by decide) (by decide)
  refine t_okv (x_preT C X xv_X11_191 rfl (kX11_needGuild O C.2.2.2.2.1 N x1 S q1 hq1) (Nat.le_of_ble_eq_true rfl) (Nat.le_of_ble_eq_true rfl) (Nat.le_of_ble_eq_true rfl) (Nat.le_of_ble_eq_true rfl) rfl hl.1 rfl (Nat.le_of_ble_eq_true rfl) dX11_confessing_2) zq1 X (fun H locs X => ?_)
  refine W.widen (k := 1) (n := 6) (by decide) (by decide) ?_
  refine lv_iload_n C.1.1 C.1.2.1 dX11_confessing_5 rfl (lv_at hl 2 rfl) ?_
  refine lv_iconst (v := 0) C.1.1 C.1.2.1 dX11_confessing_6 (by decide) ?_
  refine lv_bipush (v := 60) C.1.1 C.1.2.1 dX11_confessing_7 (by decide) ?_
  rcases (bnx_some hF).symm with ⟨q2, hq2, zq2, eo⟩ | ⟨q2, hq2, zq2, hF⟩
  · subst eo
    exact t_thr (t_preS C X xv_X11_239 (kX11_needWithin O C.2.2.2.2.1 N x2 0 60 q1.2.2 q2 hq2) (Nat.le_of_ble_eq_true rfl) (Nat.le_of_ble_eq_true rfl) (Nat.le_of_ble_eq_true rfl) (Nat.le_of_ble_eq_true rfl) rfl hl.1 rfl (Nat.le_of_ble_eq_true rfl) dX11_confessing_9) zq2 C Tb X (by decide) (by decide)
  refine t_okv (t_preS C X xv_X11_239 (kX11_needWithin O C.2.2.2.2.1 N x2 0 60 q1.2.2 q2 hq2) (Nat.le_of_ble_eq_true rfl) (Nat.le_of_ble_eq_true rfl) (Nat.le_of_ble_eq_true rfl) (Nat.le_of_ble_eq_true rfl) rfl hl.1 rfl (Nat.le_of_ble_eq_true rfl) dX11_confessing_9) zq2 X (fun H locs X => ?_)
  refine W.widen (k := 2) (n := 12) (by decide) (by decide) ?_
  refine lv_aload_n C.1.1 C.1.2.1 dX11_confessing_12 rfl (lv_at hl 0 rfl) ?_
  refine xg_X11_19 C O.1.1 X (k := 0) rfl (j := 20) rfl dX11_confessing_13 ?_
  refine xg_X11_105 C O.1.1 X (k := 20) rfl (j := 21) rfl dX11_confessing_16 ?_
  refine xg_X11_200 C O.1.1 X (k := 21) rfl (j := 23) rfl dX11_confessing_19 ?_
  refine lv_iload_n C.1.1 C.1.2.1 dX11_confessing_22 rfl (lv_at hl 1 rfl) ?_
  obtain ⟨h_1, hF⟩ := chk_some hF
  refine x_rI C X (k := 23) rfl (n := 6) rfl  (inb_vp h_1) rfl dX11_confessing_23 ?_
  refine lv_bipush (v := 50) C.1.1 C.1.2.1 dX11_confessing_24 (by decide) ?_
  refine lv_icmp_ge (tgt := 31) C.1.1 C.1.2.1 dX11_confessing_26 (by decide) (fun h_z => ?_) (fun h_z => ?_)
  · rw [if_pos h_z] at hF
    exact bX11_confessing_31 C O Tb X (lv_sub hl [0, 1, 2] rfl) hF
  · rw [if_neg h_z] at hF
    exact bX11_confessing_29 C O Tb X (lv_sub hl [] rfl) hF
noncomputable def fX11_confessing (N : Nat) (x1 : Int32) (x2 : Int32) (S : gS) : Option (tR) := fX11_confessing_b0 N x1 x2 S
theorem kX11_confessing {l : Launch} {D : va_G} {g : Nat → Nat} {cI cB cZ cQ : ClassId} {Am : (Nat → Prop) → State → Heap → Prop} {aK aV : Nat → Nat} (O : tO l g cI cB cZ cQ Am aK aV) (P : gAm Am) (N : Nat) (x1 : Int32) (x2 : Int32) (S : gS) (o : tR) (hF : fX11_confessing N x1 x2 S = some o) : gN l yX11_confessing cX11_confessing 4 ((some .int)) 7 2 D (xtys cI cB cZ cQ) (xcell g cI cB cZ cQ) xord g Am [.ref (g 0), .int x1, .int x2] S false o :=
  gN_of P (by decide) (Nat.le_of_ble_eq_true rfl) (fun p e s m args below meth c ls C Tb X hl => bX11_confessing_0 C O Tb X (lv_sub hl [0, 1, 2] rfl) hF)
-- X11.see
noncomputable def fX11_see_b65 (N : Nat) (x1 : Int32) (x2 : Int32) (x3 : Int32) (S : gS) : Option (tR) := bnd (fX5_add N 28 x1 x2 x3 S) fun q1 => (some (0, q1.2 28 3, q1.2))
theorem bX11_see_65 {N : Nat} {x1 : Int32} {x2 : Int32} {x3 : Int32} {S : gS} {H : Heap} {locs : List Loc} {ls : Array Slot} {o : tR} (C : gC p s m args meth c cX11_see 6 RX11 ((some .int)) D (xtys cI cB cZ cQ) xord g Am) (O : tO l g cI cB cZ cQ Am aK aV) (Tb : ∀ x ∈ c.exceptionTable.toList, False) (X : gX D (xcell g cI cB cZ cQ) xord g S s H locs) (hl : lv_has ls 6 [(1, .int x1), (2, .int x2), (3, .int x3), (4, .ref (g 28))]) (hF : fX11_see_b65 N x1 x2 x3 S = some o) : W p l e (rmx 7 1) s m args below meth c H locs 1 6 (gEX below args s D (xtys cI cB cZ cQ) (xcell g cI cB cZ cQ) xord g 1 false o) (F0 m 65 ls []) := by
  unfold fX11_see_b65 at hF
  refine lv_aload C.1.1 C.1.2.1 dX11_see_65 (lv_at hl 3 rfl) ?_
  refine lv_iload_n C.1.1 C.1.2.1 dX11_see_67 rfl (lv_at hl 0 rfl) ?_
  refine lv_iload_n C.1.1 C.1.2.1 dX11_see_68 rfl (lv_at hl 1 rfl) ?_
  refine lv_iload_n C.1.1 C.1.2.1 dX11_see_69 rfl (lv_at hl 2 rfl) ?_
  obtain ⟨q1, hq1, hF⟩ := bnd_some hF
  refine x_callV C X (k := 28) xv_X11_325 (rfl : xk 28 = 5) rfl rfl (by decide) (kX5_add O.1.1 C.2.2.2.2.1 N 28 x1 x2 x3 (rfl : xk 28 = 5) S q1 hq1) (Nat.le_of_ble_eq_true rfl) (Nat.le_of_ble_eq_true rfl) (Nat.le_of_ble_eq_true rfl) (Nat.le_of_ble_eq_true rfl) rfl hl.1 rfl (Nat.le_of_ble_eq_true rfl) dX11_see_70 (fun H locs X => ?_)
  refine lv_aload C.1.1 C.1.2.1 dX11_see_73 (lv_at hl 3 rfl) ?_
  refine xg_X11_150 C O.1.1 X (k := 28) rfl dX11_see_75 ?_
  cases hF
  exact t_iret C X (by decide) (by decide) dX11_see_78
noncomputable def fX11_see_b56 (N : Nat) (S : gS) : Option (tR) := bnd (fX1_refuse N 20 2 S) fun q1 => (some (0, q1.1, q1.2))
theorem bX11_see_56 {N : Nat} {S : gS} {H : Heap} {locs : List Loc} {ls : Array Slot} {o : tR} (C : gC p s m args meth c cX11_see 6 RX11 ((some .int)) D (xtys cI cB cZ cQ) xord g Am) (O : tO l g cI cB cZ cQ Am aK aV) (Tb : ∀ x ∈ c.exceptionTable.toList, False) (X : gX D (xcell g cI cB cZ cQ) xord g S s H locs) (hl : lv_has ls 6 [(0, .ref (g 0))]) (hF : fX11_see_b56 N S = some o) : W p l e (rmx 7 1) s m args below meth c H locs 1 6 (gEX below args s D (xtys cI cB cZ cQ) (xcell g cI cB cZ cQ) xord g 1 false o) (F0 m 56 ls []) := by
  unfold fX11_see_b56 at hF
  refine lv_aload_n C.1.1 C.1.2.1 dX11_see_56 rfl (lv_at hl 0 rfl) ?_
  refine xg_X11_19 C O.1.1 X (k := 0) rfl (j := 20) rfl dX11_see_57 ?_
  refine lv_iconst (v := 2) C.1.1 C.1.2.1 dX11_see_60 (by decide) ?_
  obtain ⟨q1, hq1, hF⟩ := bnd_some hF
  refine x_callVi C X (k := 20) xv_X11_93 (rfl : xk 20 = 1) rfl rfl (by decide) (kX1_refuse O.1.1 C.2.2.2.2.1 N 20 2 (rfl : xk 20 = 1) S q1 hq1) (Nat.le_of_ble_eq_true rfl) (Nat.le_of_ble_eq_true rfl) (Nat.le_of_ble_eq_true rfl) (Nat.le_of_ble_eq_true rfl) rfl hl.1 rfl (Nat.le_of_ble_eq_true rfl) dX11_see_61 (fun H locs X => ?_)
  cases hF
  exact t_iret C X (by decide) (by decide) dX11_see_64
noncomputable def fX11_see_b46 (N : Nat) (x1 : Int32) (x2 : Int32) (x3 : Int32) (S : gS) : Option (tR) := if (S 28 3) < 8 then fX11_see_b65 N x1 x2 x3 S else fX11_see_b56 N S
theorem bX11_see_46 {N : Nat} {x1 : Int32} {x2 : Int32} {x3 : Int32} {S : gS} {H : Heap} {locs : List Loc} {ls : Array Slot} {o : tR} (C : gC p s m args meth c cX11_see 6 RX11 ((some .int)) D (xtys cI cB cZ cQ) xord g Am) (O : tO l g cI cB cZ cQ Am aK aV) (Tb : ∀ x ∈ c.exceptionTable.toList, False) (X : gX D (xcell g cI cB cZ cQ) xord g S s H locs) (hl : lv_has ls 6 [(0, .ref (g 0)), (1, .int x1), (2, .int x2), (3, .int x3), (4, .ref (g 28))]) (hF : fX11_see_b46 N x1 x2 x3 S = some o) : W p l e (rmx 7 1) s m args below meth c H locs 1 6 (gEX below args s D (xtys cI cB cZ cQ) (xcell g cI cB cZ cQ) xord g 1 false o) (F0 m 46 ls []) := by
  unfold fX11_see_b46 at hF
  refine lv_aload C.1.1 C.1.2.1 dX11_see_46 (lv_at hl 4 rfl) ?_
  refine xg_X11_150 C O.1.1 X (k := 28) rfl dX11_see_48 ?_
  refine lv_bipush (v := 8) C.1.1 C.1.2.1 dX11_see_51 (by decide) ?_
  refine lv_icmp_lt (tgt := 65) C.1.1 C.1.2.1 dX11_see_53 (by decide) (fun h_z => ?_) (fun h_z => ?_)
  · rw [if_pos h_z] at hF
    exact bX11_see_65 C O Tb X (lv_sub hl [1, 2, 3, 4] rfl) hF
  · rw [if_neg h_z] at hF
    exact bX11_see_56 C O Tb X (lv_sub hl [0] rfl) hF
noncomputable def fX11_see_b39 (N : Nat) (x1 : Int32) (x2 : Int32) (x3 : Int32) (t0 : Int32) (S : gS) : Option (tR) := if t0 = 0 then fX11_see_b56 N S else fX11_see_b46 N x1 x2 x3 S
theorem bX11_see_39 {N : Nat} {x1 : Int32} {x2 : Int32} {x3 : Int32} {t0 : Int32} {S : gS} {H : Heap} {locs : List Loc} {ls : Array Slot} {o : tR} (C : gC p s m args meth c cX11_see 6 RX11 ((some .int)) D (xtys cI cB cZ cQ) xord g Am) (O : tO l g cI cB cZ cQ Am aK aV) (Tb : ∀ x ∈ c.exceptionTable.toList, False) (X : gX D (xcell g cI cB cZ cQ) xord g S s H locs) (hl : lv_has ls 6 [(0, .ref (g 0)), (1, .int x1), (2, .int x2), (3, .int x3), (4, .ref (g 28))]) (hF : fX11_see_b39 N x1 x2 x3 t0 S = some o) : W p l e (rmx 7 1) s m args below meth c H locs 1 6 (gEX below args s D (xtys cI cB cZ cQ) (xcell g cI cB cZ cQ) xord g 1 false o) (F0 m 39 ls [.int t0]) := by
  unfold fX11_see_b39 at hF
  refine lv_istore (lv' := [(5, .int t0), (0, .ref (g 0)), (1, .int x1), (2, .int x2), (3, .int x3), (4, .ref (g 28))]) C.1.1 C.1.2.1 dX11_see_39 hl (by decide) rfl (fun ls hl => ?_)
  refine lv_iload C.1.1 C.1.2.1 dX11_see_41 (lv_at hl 0 rfl) ?_
  refine lv_if_eq (tgt := 56) C.1.1 C.1.2.1 dX11_see_43 (by decide) (fun h_z => ?_) (fun h_z => ?_)
  · rw [if_pos h_z] at hF
    exact bX11_see_56 C O Tb X (lv_sub hl [1] rfl) hF
  · rw [if_neg h_z] at hF
    exact bX11_see_46 C O Tb X (lv_sub hl [1, 2, 3, 4, 5] rfl) hF
noncomputable def fX11_see_b38 (N : Nat) (x1 : Int32) (x2 : Int32) (x3 : Int32) (S : gS) : Option (tR) := fX11_see_b39 N x1 x2 x3 0 S
theorem bX11_see_38 {N : Nat} {x1 : Int32} {x2 : Int32} {x3 : Int32} {S : gS} {H : Heap} {locs : List Loc} {ls : Array Slot} {o : tR} (C : gC p s m args meth c cX11_see 6 RX11 ((some .int)) D (xtys cI cB cZ cQ) xord g Am) (O : tO l g cI cB cZ cQ Am aK aV) (Tb : ∀ x ∈ c.exceptionTable.toList, False) (X : gX D (xcell g cI cB cZ cQ) xord g S s H locs) (hl : lv_has ls 6 [(0, .ref (g 0)), (1, .int x1), (2, .int x2), (3, .int x3), (4, .ref (g 28))]) (hF : fX11_see_b38 N x1 x2 x3 S = some o) : W p l e (rmx 7 1) s m args below meth c H locs 1 6 (gEX below args s D (xtys cI cB cZ cQ) (xcell g cI cB cZ cQ) xord g 1 false o) (F0 m 38 ls []) := by
  unfold fX11_see_b38 at hF
  refine lv_iconst (v := 0) C.1.1 C.1.2.1 dX11_see_38 (by decide) ?_
  exact bX11_see_39 C O Tb X (lv_sub hl [0, 1, 2, 3, 4] rfl) hF
noncomputable def fX11_see_b34 (N : Nat) (x1 : Int32) (x2 : Int32) (x3 : Int32) (S : gS) : Option (tR) := fX11_see_b39 N x1 x2 x3 1 S
theorem bX11_see_34 {N : Nat} {x1 : Int32} {x2 : Int32} {x3 : Int32} {S : gS} {H : Heap} {locs : List Loc} {ls : Array Slot} {o : tR} (C : gC p s m args meth c cX11_see 6 RX11 ((some .int)) D (xtys cI cB cZ cQ) xord g Am) (O : tO l g cI cB cZ cQ Am aK aV) (Tb : ∀ x ∈ c.exceptionTable.toList, False) (X : gX D (xcell g cI cB cZ cQ) xord g S s H locs) (hl : lv_has ls 6 [(0, .ref (g 0)), (1, .int x1), (2, .int x2), (3, .int x3), (4, .ref (g 28))]) (hF : fX11_see_b34 N x1 x2 x3 S = some o) : W p l e (rmx 7 1) s m args below meth c H locs 1 6 (gEX below args s D (xtys cI cB cZ cQ) (xcell g cI cB cZ cQ) xord g 1 false o) (F0 m 34 ls []) := by
  unfold fX11_see_b34 at hF
  refine lv_iconst (v := 1) C.1.1 C.1.2.1 dX11_see_34 (by decide) ?_
  refine lv_goto (tgt := 39) C.1.1 C.1.2.1 dX11_see_35 (by decide) ?_
  exact bX11_see_39 C O Tb X (lv_sub hl [0, 1, 2, 3, 4] rfl) hF
noncomputable def fX11_see_b24 (N : Nat) (x1 : Int32) (x2 : Int32) (x3 : Int32) (S : gS) : Option (tR) := bnd (fX11_isWithin N x3 0 99 S) fun q1 => (if q1.1 = 0 then fX11_see_b38 N x1 x2 x3 q1.2 else fX11_see_b34 N x1 x2 x3 q1.2)
theorem bX11_see_24 {N : Nat} {x1 : Int32} {x2 : Int32} {x3 : Int32} {S : gS} {H : Heap} {locs : List Loc} {ls : Array Slot} {o : tR} (C : gC p s m args meth c cX11_see 6 RX11 ((some .int)) D (xtys cI cB cZ cQ) xord g Am) (O : tO l g cI cB cZ cQ Am aK aV) (Tb : ∀ x ∈ c.exceptionTable.toList, False) (X : gX D (xcell g cI cB cZ cQ) xord g S s H locs) (hl : lv_has ls 6 [(0, .ref (g 0)), (1, .int x1), (2, .int x2), (3, .int x3), (4, .ref (g 28))]) (hF : fX11_see_b24 N x1 x2 x3 S = some o) : W p l e (rmx 7 1) s m args below meth c H locs 1 6 (gEX below args s D (xtys cI cB cZ cQ) (xcell g cI cB cZ cQ) xord g 1 false o) (F0 m 24 ls []) := by
  unfold fX11_see_b24 at hF
  refine lv_iload_n C.1.1 C.1.2.1 dX11_see_24 rfl (lv_at hl 3 rfl) ?_
  refine lv_iconst (v := 0) C.1.1 C.1.2.1 dX11_see_25 (by decide) ?_
  refine lv_bipush (v := 99) C.1.1 C.1.2.1 dX11_see_26 (by decide) ?_
  obtain ⟨q1, hq1, hF⟩ := bnd_some hF
  refine g_callSi C X xv_X11_214 (kX11_isWithin O.1.1 C.2.2.2.2.1 N x3 0 99 S q1 hq1) (Nat.le_of_ble_eq_true rfl) (Nat.le_of_ble_eq_true rfl) (Nat.le_of_ble_eq_true rfl) (Nat.le_of_ble_eq_true rfl) rfl hl.1 rfl (Nat.le_of_ble_eq_true rfl) dX11_see_28 (fun H locs X => ?_)
  refine lv_if_eq (tgt := 38) C.1.1 C.1.2.1 dX11_see_31 (by decide) (fun h_z => ?_) (fun h_z => ?_)
  · rw [if_pos h_z] at hF
    exact bX11_see_38 C O Tb X (lv_sub hl [0, 1, 2, 3, 4] rfl) hF
  · rw [if_neg h_z] at hF
    exact bX11_see_34 C O Tb X (lv_sub hl [0, 1, 2, 3, 4] rfl) hF
noncomputable def fX11_see_b0 (N : Nat) (x1 : Int32) (x2 : Int32) (x3 : Int32) (S : gS) : Option (tR) := bnx (fX11_needGuild N x1 S) fun q1 => (bnd (fX11_isWithin N x2 0 20 q1.2.2) fun q2 => (if q2.1 = 0 then fX11_see_b38 N x1 x2 x3 q2.2 else fX11_see_b24 N x1 x2 x3 q2.2))
theorem bX11_see_0 {N : Nat} {x1 : Int32} {x2 : Int32} {x3 : Int32} {S : gS} {H : Heap} {locs : List Loc} {ls : Array Slot} {o : tR} (C : gC p s m args meth c cX11_see 6 RX11 ((some .int)) D (xtys cI cB cZ cQ) xord g Am) (O : tO l g cI cB cZ cQ Am aK aV) (Tb : ∀ x ∈ c.exceptionTable.toList, False) (X : gX D (xcell g cI cB cZ cQ) xord g S s H locs) (hl : lv_has ls 6 [(0, .ref (g 0)), (1, .int x1), (2, .int x2), (3, .int x3)]) (hF : fX11_see_b0 N x1 x2 x3 S = some o) : W p l e (rmx 7 1) s m args below meth c H locs 0 0 (gEX below args s D (xtys cI cB cZ cQ) (xcell g cI cB cZ cQ) xord g 1 false o) (F0 m 0 ls []) := by
  unfold fX11_see_b0 at hF
  refine lv_aload_n C.1.1 C.1.2.1 dX11_see_0 rfl (lv_at hl 0 rfl) ?_
  refine lv_iload_n C.1.1 C.1.2.1 dX11_see_1 rfl (lv_at hl 1 rfl) ?_
  rcases (bnx_some hF).symm with ⟨q1, hq1, zq1, eo⟩ | ⟨q1, hq1, zq1, hF⟩
  · subst eo
    exact t_thr (x_preT C X xv_X11_191 rfl (kX11_needGuild O C.2.2.2.2.1 N x1 S q1 hq1) (Nat.le_of_ble_eq_true rfl) (Nat.le_of_ble_eq_true rfl) (Nat.le_of_ble_eq_true rfl) (Nat.le_of_ble_eq_true rfl) rfl hl.1 rfl (Nat.le_of_ble_eq_true rfl) dX11_see_2) zq1 C Tb X (by decide) (by decide)
  refine t_okv (x_preT C X xv_X11_191 rfl (kX11_needGuild O C.2.2.2.2.1 N x1 S q1 hq1) (Nat.le_of_ble_eq_true rfl) (Nat.le_of_ble_eq_true rfl) (Nat.le_of_ble_eq_true rfl) (Nat.le_of_ble_eq_true rfl) rfl hl.1 rfl (Nat.le_of_ble_eq_true rfl) dX11_see_2) zq1 X (fun H locs X => ?_)
  refine W.widen (k := 1) (n := 6) (by decide) (by decide) ?_
  refine lv_aload_n C.1.1 C.1.2.1 dX11_see_5 rfl (lv_at hl 0 rfl) ?_
  refine xg_X11_19 C O.1.1 X (k := 0) rfl (j := 20) rfl dX11_see_6 ?_
  refine xg_X11_146 C O.1.1 X (k := 20) rfl (j := 28) rfl dX11_see_9 ?_
  refine lv_astore (lv' := [(4, .ref (g 28)), (0, .ref (g 0)), (1, .int x1), (2, .int x2), (3, .int x3)]) C.1.1 C.1.2.1 dX11_see_12 hl (by decide) rfl (fun ls hl => ?_)
  refine lv_iload_n C.1.1 C.1.2.1 dX11_see_14 rfl (lv_at hl 3 rfl) ?_
  refine lv_iconst (v := 0) C.1.1 C.1.2.1 dX11_see_15 (by decide) ?_
  refine lv_bipush (v := 20) C.1.1 C.1.2.1 dX11_see_16 (by decide) ?_
  obtain ⟨q2, hq2, hF⟩ := bnd_some hF
  refine g_callSi C X xv_X11_214 (kX11_isWithin O.1.1 C.2.2.2.2.1 N x2 0 20 q1.2.2 q2 hq2) (Nat.le_of_ble_eq_true rfl) (Nat.le_of_ble_eq_true rfl) (Nat.le_of_ble_eq_true rfl) (Nat.le_of_ble_eq_true rfl) rfl hl.1 rfl (Nat.le_of_ble_eq_true rfl) dX11_see_18 (fun H locs X => ?_)
  refine lv_if_eq (tgt := 38) C.1.1 C.1.2.1 dX11_see_21 (by decide) (fun h_z => ?_) (fun h_z => ?_)
  · rw [if_pos h_z] at hF
    exact bX11_see_38 C O Tb X (lv_sub hl [1, 2, 3, 4, 0] rfl) hF
  · rw [if_neg h_z] at hF
    exact bX11_see_24 C O Tb X (lv_sub hl [1, 2, 3, 4, 0] rfl) hF
noncomputable def fX11_see (N : Nat) (x1 : Int32) (x2 : Int32) (x3 : Int32) (S : gS) : Option (tR) := fX11_see_b0 N x1 x2 x3 S
theorem kX11_see {l : Launch} {D : va_G} {g : Nat → Nat} {cI cB cZ cQ : ClassId} {Am : (Nat → Prop) → State → Heap → Prop} {aK aV : Nat → Nat} (O : tO l g cI cB cZ cQ Am aK aV) (P : gAm Am) (N : Nat) (x1 : Int32) (x2 : Int32) (x3 : Int32) (S : gS) (o : tR) (hF : fX11_see N x1 x2 x3 S = some o) : gN l yX11_see cX11_see 6 ((some .int)) 7 1 D (xtys cI cB cZ cQ) (xcell g cI cB cZ cQ) xord g Am [.ref (g 0), .int x1, .int x2, .int x3] S false o :=
  gN_of P (by decide) (Nat.le_of_ble_eq_true rfl) (fun p e s m args below meth c ls C Tb X hl => bX11_see_0 C O Tb X (lv_sub hl [0, 1, 2, 3] rfl) hF)
-- X11.greedy
noncomputable def fX11_greedy_b83 (N : Nat) (t0 : Int32) (S : gS) : Option (tR) := some (0, t0, S)
theorem bX11_greedy_83 {N : Nat} {t0 : Int32} {S : gS} {H : Heap} {locs : List Loc} {ls : Array Slot} {o : tR} (C : gC p s m args meth c cX11_greedy 2 RX11 ((some .int)) D (xtys cI cB cZ cQ) xord g Am) (O : tO l g cI cB cZ cQ Am aK aV) (Tb : ∀ x ∈ c.exceptionTable.toList, False) (X : gX D (xcell g cI cB cZ cQ) xord g S s H locs) (hl : lv_has ls 2 []) (hF : fX11_greedy_b83 N t0 S = some o) : W p l e (rmx 7 1) s m args below meth c H locs 1 6 (gEX below args s D (xtys cI cB cZ cQ) (xcell g cI cB cZ cQ) xord g 1 false o) (F0 m 83 ls [.int t0]) := by
  unfold fX11_greedy_b83 at hF
  cases hF
  exact t_iret C X (by decide) (by decide) dX11_greedy_83
noncomputable def fX11_greedy_b82 (N : Nat) (S : gS) : Option (tR) := fX11_greedy_b83 N 0 S
theorem bX11_greedy_82 {N : Nat} {S : gS} {H : Heap} {locs : List Loc} {ls : Array Slot} {o : tR} (C : gC p s m args meth c cX11_greedy 2 RX11 ((some .int)) D (xtys cI cB cZ cQ) xord g Am) (O : tO l g cI cB cZ cQ Am aK aV) (Tb : ∀ x ∈ c.exceptionTable.toList, False) (X : gX D (xcell g cI cB cZ cQ) xord g S s H locs) (hl : lv_has ls 2 []) (hF : fX11_greedy_b82 N S = some o) : W p l e (rmx 7 1) s m args below meth c H locs 1 6 (gEX below args s D (xtys cI cB cZ cQ) (xcell g cI cB cZ cQ) xord g 1 false o) (F0 m 82 ls []) := by
  unfold fX11_greedy_b82 at hF
  refine lv_iconst (v := 0) C.1.1 C.1.2.1 dX11_greedy_82 (by decide) ?_
  exact bX11_greedy_83 C O Tb X (lv_sub hl [] rfl) hF
noncomputable def fX11_greedy_b78 (N : Nat) (S : gS) : Option (tR) := fX11_greedy_b83 N 1 S
theorem bX11_greedy_78 {N : Nat} {S : gS} {H : Heap} {locs : List Loc} {ls : Array Slot} {o : tR} (C : gC p s m args meth c cX11_greedy 2 RX11 ((some .int)) D (xtys cI cB cZ cQ) xord g Am) (O : tO l g cI cB cZ cQ Am aK aV) (Tb : ∀ x ∈ c.exceptionTable.toList, False) (X : gX D (xcell g cI cB cZ cQ) xord g S s H locs) (hl : lv_has ls 2 []) (hF : fX11_greedy_b78 N S = some o) : W p l e (rmx 7 1) s m args below meth c H locs 1 6 (gEX below args s D (xtys cI cB cZ cQ) (xcell g cI cB cZ cQ) xord g 1 false o) (F0 m 78 ls []) := by
  unfold fX11_greedy_b78 at hF
  refine lv_iconst (v := 1) C.1.1 C.1.2.1 dX11_greedy_78 (by decide) ?_
  refine lv_goto (tgt := 83) C.1.1 C.1.2.1 dX11_greedy_79 (by decide) ?_
  exact bX11_greedy_83 C O Tb X (lv_sub hl [] rfl) hF
noncomputable def fX11_greedy_b68 (N : Nat) (S : gS) : Option (tR) := if (S 62 5) = 0 then fX11_greedy_b82 N S else fX11_greedy_b78 N S
theorem bX11_greedy_68 {N : Nat} {S : gS} {H : Heap} {locs : List Loc} {ls : Array Slot} {o : tR} (C : gC p s m args meth c cX11_greedy 2 RX11 ((some .int)) D (xtys cI cB cZ cQ) xord g Am) (O : tO l g cI cB cZ cQ Am aK aV) (Tb : ∀ x ∈ c.exceptionTable.toList, False) (X : gX D (xcell g cI cB cZ cQ) xord g S s H locs) (hl : lv_has ls 2 [(0, .ref (g 0))]) (hF : fX11_greedy_b68 N S = some o) : W p l e (rmx 7 1) s m args below meth c H locs 1 6 (gEX below args s D (xtys cI cB cZ cQ) (xcell g cI cB cZ cQ) xord g 1 false o) (F0 m 68 ls []) := by
  unfold fX11_greedy_b68 at hF
  refine lv_aload_n C.1.1 C.1.2.1 dX11_greedy_68 rfl (lv_at hl 0 rfl) ?_
  refine xg_X11_50 C O.1.1 X (k := 0) rfl (j := 62) rfl dX11_greedy_69 ?_
  refine xg_X11_335 C O.1.1 X (k := 62) rfl dX11_greedy_72 ?_
  refine lv_if_eq (tgt := 82) C.1.1 C.1.2.1 dX11_greedy_75 (by decide) (fun h_z => ?_) (fun h_z => ?_)
  · rw [if_pos h_z] at hF
    exact bX11_greedy_82 C O Tb X (lv_sub hl [] rfl) hF
  · rw [if_neg h_z] at hF
    exact bX11_greedy_78 C O Tb X (lv_sub hl [] rfl) hF
noncomputable def fX11_greedy_b60 (N : Nat) (S : gS) : Option (tR) := some (0, S 62 4, S)
theorem bX11_greedy_60 {N : Nat} {S : gS} {H : Heap} {locs : List Loc} {ls : Array Slot} {o : tR} (C : gC p s m args meth c cX11_greedy 2 RX11 ((some .int)) D (xtys cI cB cZ cQ) xord g Am) (O : tO l g cI cB cZ cQ Am aK aV) (Tb : ∀ x ∈ c.exceptionTable.toList, False) (X : gX D (xcell g cI cB cZ cQ) xord g S s H locs) (hl : lv_has ls 2 [(0, .ref (g 0))]) (hF : fX11_greedy_b60 N S = some o) : W p l e (rmx 7 1) s m args below meth c H locs 1 6 (gEX below args s D (xtys cI cB cZ cQ) (xcell g cI cB cZ cQ) xord g 1 false o) (F0 m 60 ls []) := by
  unfold fX11_greedy_b60 at hF
  refine lv_aload_n C.1.1 C.1.2.1 dX11_greedy_60 rfl (lv_at hl 0 rfl) ?_
  refine xg_X11_50 C O.1.1 X (k := 0) rfl (j := 62) rfl dX11_greedy_61 ?_
  refine xg_X11_332 C O.1.1 X (k := 62) rfl dX11_greedy_64 ?_
  cases hF
  exact t_iret C X (by decide) (by decide) dX11_greedy_67
noncomputable def fX11_greedy_b52 (N : Nat) (S : gS) : Option (tR) := some (0, S 62 3, S)
theorem bX11_greedy_52 {N : Nat} {S : gS} {H : Heap} {locs : List Loc} {ls : Array Slot} {o : tR} (C : gC p s m args meth c cX11_greedy 2 RX11 ((some .int)) D (xtys cI cB cZ cQ) xord g Am) (O : tO l g cI cB cZ cQ Am aK aV) (Tb : ∀ x ∈ c.exceptionTable.toList, False) (X : gX D (xcell g cI cB cZ cQ) xord g S s H locs) (hl : lv_has ls 2 [(0, .ref (g 0))]) (hF : fX11_greedy_b52 N S = some o) : W p l e (rmx 7 1) s m args below meth c H locs 1 6 (gEX below args s D (xtys cI cB cZ cQ) (xcell g cI cB cZ cQ) xord g 1 false o) (F0 m 52 ls []) := by
  unfold fX11_greedy_b52 at hF
  refine lv_aload_n C.1.1 C.1.2.1 dX11_greedy_52 rfl (lv_at hl 0 rfl) ?_
  refine xg_X11_50 C O.1.1 X (k := 0) rfl (j := 62) rfl dX11_greedy_53 ?_
  refine xg_X11_331 C O.1.1 X (k := 62) rfl dX11_greedy_56 ?_
  cases hF
  exact t_iret C X (by decide) (by decide) dX11_greedy_59
noncomputable def fX11_greedy_b0 (N : Nat) (x1 : Int32) (S : gS) : Option (tR) := bnx (fX11_needWhat N x1 2 S) fun q1 => (lt (xtw q1.2.2) fun T1 => (bnd (fX2_weigh N T1 20 q1.2.2) fun q2 => (if x1 = 0 then fX11_greedy_b52 N q2.2 else if x1 = 1 then fX11_greedy_b60 N q2.2 else fX11_greedy_b68 N q2.2)))
theorem bX11_greedy_0 {N : Nat} {x1 : Int32} {S : gS} {H : Heap} {locs : List Loc} {ls : Array Slot} {o : tR} (C : gC p s m args meth c cX11_greedy 2 RX11 ((some .int)) D (xtys cI cB cZ cQ) xord g Am) (O : tO l g cI cB cZ cQ Am aK aV) (Tb : ∀ x ∈ c.exceptionTable.toList, False) (X : gX D (xcell g cI cB cZ cQ) xord g S s H locs) (hl : lv_has ls 2 [(0, .ref (g 0)), (1, .int x1)]) (hF : fX11_greedy_b0 N x1 S = some o) : W p l e (rmx 7 1) s m args below meth c H locs 0 0 (gEX below args s D (xtys cI cB cZ cQ) (xcell g cI cB cZ cQ) xord g 1 false o) (F0 m 0 ls []) := by
  unfold fX11_greedy_b0 at hF
  refine lv_iload_n C.1.1 C.1.2.1 dX11_greedy_0 rfl (lv_at hl 1 rfl) ?_
  refine lv_iconst (v := 2) C.1.1 C.1.2.1 dX11_greedy_1 (by decide) ?_
  rcases (bnx_some hF).symm with ⟨q1, hq1, zq1, eo⟩ | ⟨q1, hq1, zq1, hF⟩
  · subst eo
    exact t_thr (t_preS C X xv_X11_236 (kX11_needWhat O C.2.2.2.2.1 N x1 2 S q1 hq1) (Nat.le_of_ble_eq_true rfl) (Nat.le_of_ble_eq_true rfl) (Nat.le_of_ble_eq_true rfl) (Nat.le_of_ble_eq_true rfl) rfl hl.1 rfl (Nat.le_of_ble_eq_true rfl) dX11_greedy_2) zq1 C Tb X (by decide) (by decide)
  refine t_okv (t_preS C X xv_X11_236 (kX11_needWhat O C.2.2.2.2.1 N x1 2 S q1 hq1) (Nat.le_of_ble_eq_true rfl) (Nat.le_of_ble_eq_true rfl) (Nat.le_of_ble_eq_true rfl) (Nat.le_of_ble_eq_true rfl) rfl hl.1 rfl (Nat.le_of_ble_eq_true rfl) dX11_greedy_2) zq1 X (fun H locs X => ?_)
  refine W.widen (k := 1) (n := 6) (by decide) (by decide) ?_
  refine lv_aload_n C.1.1 C.1.2.1 dX11_greedy_5 rfl (lv_at hl 0 rfl) ?_
  refine xg_X11_50 C O.1.1 X (k := 0) rfl (j := 62) rfl dX11_greedy_6 ?_
  refine lv_aload_n C.1.1 C.1.2.1 dX11_greedy_9 rfl (lv_at hl 0 rfl) ?_
  obtain ⟨T1, eT1, hF⟩ := lt_some hF
  have hk_T1 := xtw_k eT1
  refine xg_X11_57 C O.1.1 X (T := T1) eT1 (k := 0) rfl dX11_greedy_10 ?_
  refine lv_aload_n C.1.1 C.1.2.1 dX11_greedy_13 rfl (lv_at hl 0 rfl) ?_
  refine xg_X11_19 C O.1.1 X (k := 0) rfl (j := 20) rfl dX11_greedy_14 ?_
  refine lv_aload_n C.1.1 C.1.2.1 dX11_greedy_17 rfl (lv_at hl 0 rfl) ?_
  refine xg_X11_36 C O.1.1 X (k := 0) rfl (j := 51) rfl dX11_greedy_18 ?_
  obtain ⟨q2, hq2, hF⟩ := bnd_some hF
  refine x_callV C X (k := 62) xv_X11_327 (rfl : xk 62 = 2) rfl rfl (by decide) (kX2_weigh O.1.1 C.2.2.2.2.1 N T1 20 (hk_T1 : xk T1 = 9) (rfl : xk 20 = 1) q1.2.2 q2 hq2) (Nat.le_of_ble_eq_true rfl) (Nat.le_of_ble_eq_true rfl) (Nat.le_of_ble_eq_true rfl) (Nat.le_of_ble_eq_true rfl) rfl hl.1 rfl (Nat.le_of_ble_eq_true rfl) dX11_greedy_21 (fun H locs X => ?_)
  refine lv_iload_n C.1.1 C.1.2.1 dX11_greedy_24 rfl (lv_at hl 1 rfl) ?_
  by_cases hz_0 : x1 = 0
  · rw [if_pos hz_0] at hF
    refine lv_lookup (off := 27) (tgt := 52) C.1.1 C.1.2.1 dX11_greedy_25 (by decide) (by rw [hz_0]; decide) (by decide) ?_
    exact bX11_greedy_52 C O Tb X (lv_sub hl [0] rfl) hF
  rw [if_neg hz_0] at hF
  by_cases hz_1 : x1 = 1
  · rw [if_pos hz_1] at hF
    refine lv_lookup (off := 35) (tgt := 60) C.1.1 C.1.2.1 dX11_greedy_25 (by decide) (by rw [hz_1]; decide) (by decide) ?_
    exact bX11_greedy_60 C O Tb X (lv_sub hl [0] rfl) hF
  rw [if_neg hz_1] at hF
  refine lv_lookup (off := 43) (tgt := 68) C.1.1 C.1.2.1 dX11_greedy_25 (by decide) (g_lsw2 hz_0 hz_1) (by decide) ?_
  exact bX11_greedy_68 C O Tb X (lv_sub hl [0] rfl) hF
noncomputable def fX11_greedy (N : Nat) (x1 : Int32) (S : gS) : Option (tR) := fX11_greedy_b0 N x1 S
theorem kX11_greedy {l : Launch} {D : va_G} {g : Nat → Nat} {cI cB cZ cQ : ClassId} {Am : (Nat → Prop) → State → Heap → Prop} {aK aV : Nat → Nat} (O : tO l g cI cB cZ cQ Am aK aV) (P : gAm Am) (N : Nat) (x1 : Int32) (S : gS) (o : tR) (hF : fX11_greedy N x1 S = some o) : gN l yX11_greedy cX11_greedy 2 ((some .int)) 7 1 D (xtys cI cB cZ cQ) (xcell g cI cB cZ cQ) xord g Am [.ref (g 0), .int x1] S false o :=
  gN_of P (by decide) (Nat.le_of_ble_eq_true rfl) (fun p e s m args below meth c ls C Tb X hl => bX11_greedy_0 C O Tb X (lv_sub hl [0, 1] rfl) hF)
-- X11.look
noncomputable def fX11_look_b55 (N : Nat) (t0 : Int32) (S : gS) : Option (tR) := some (0, t0, S)
theorem bX11_look_55 {N : Nat} {t0 : Int32} {S : gS} {H : Heap} {locs : List Loc} {ls : Array Slot} {o : tR} (C : gC p s m args meth c cX11_look 3 RX11 ((some .int)) D (xtys cI cB cZ cQ) xord g Am) (O : tO l g cI cB cZ cQ Am aK aV) (Tb : ∀ x ∈ c.exceptionTable.toList, False) (X : gX D (xcell g cI cB cZ cQ) xord g S s H locs) (hl : lv_has ls 3 []) (hF : fX11_look_b55 N t0 S = some o) : W p l e (rmx 7 1) s m args below meth c H locs 1 6 (gEX below args s D (xtys cI cB cZ cQ) (xcell g cI cB cZ cQ) xord g 1 false o) (F0 m 55 ls [.int t0]) := by
  unfold fX11_look_b55 at hF
  cases hF
  exact t_iret C X (by decide) (by decide) dX11_look_55
noncomputable def fX11_look_b47 (N : Nat) (x2 : Int32) (S : gS) : Option (tR) := bnd (fX2_unlikeBehind N x2 S) fun q1 => (fX11_look_b55 N q1.1 q1.2)
theorem bX11_look_47 {N : Nat} {x2 : Int32} {S : gS} {H : Heap} {locs : List Loc} {ls : Array Slot} {o : tR} (C : gC p s m args meth c cX11_look 3 RX11 ((some .int)) D (xtys cI cB cZ cQ) xord g Am) (O : tO l g cI cB cZ cQ Am aK aV) (Tb : ∀ x ∈ c.exceptionTable.toList, False) (X : gX D (xcell g cI cB cZ cQ) xord g S s H locs) (hl : lv_has ls 3 [(0, .ref (g 0)), (2, .int x2)]) (hF : fX11_look_b47 N x2 S = some o) : W p l e (rmx 7 1) s m args below meth c H locs 1 6 (gEX below args s D (xtys cI cB cZ cQ) (xcell g cI cB cZ cQ) xord g 1 false o) (F0 m 47 ls []) := by
  unfold fX11_look_b47 at hF
  refine lv_aload_n C.1.1 C.1.2.1 dX11_look_47 rfl (lv_at hl 0 rfl) ?_
  refine xg_X11_50 C O.1.1 X (k := 0) rfl (j := 62) rfl dX11_look_48 ?_
  refine lv_iload_n C.1.1 C.1.2.1 dX11_look_51 rfl (lv_at hl 1 rfl) ?_
  obtain ⟨q1, hq1, hF⟩ := bnd_some hF
  refine x_callVi C X (k := 62) xv_X11_341 (rfl : xk 62 = 2) rfl rfl (by decide) (kX2_unlikeBehind O.1 C.2.2.2.2.1 N x2 S q1 hq1) (Nat.le_of_ble_eq_true rfl) (Nat.le_of_ble_eq_true rfl) (Nat.le_of_ble_eq_true rfl) (Nat.le_of_ble_eq_true rfl) rfl hl.1 rfl (Nat.le_of_ble_eq_true rfl) dX11_look_52 (fun H locs X => ?_)
  exact bX11_look_55 C O Tb X (lv_sub hl [] rfl) hF
noncomputable def fX11_look_b43 (N : Nat) (S : gS) : Option (tR) := fX11_look_b55 N 0 S
theorem bX11_look_43 {N : Nat} {S : gS} {H : Heap} {locs : List Loc} {ls : Array Slot} {o : tR} (C : gC p s m args meth c cX11_look 3 RX11 ((some .int)) D (xtys cI cB cZ cQ) xord g Am) (O : tO l g cI cB cZ cQ Am aK aV) (Tb : ∀ x ∈ c.exceptionTable.toList, False) (X : gX D (xcell g cI cB cZ cQ) xord g S s H locs) (hl : lv_has ls 3 []) (hF : fX11_look_b43 N S = some o) : W p l e (rmx 7 1) s m args below meth c H locs 1 6 (gEX below args s D (xtys cI cB cZ cQ) (xcell g cI cB cZ cQ) xord g 1 false o) (F0 m 43 ls []) := by
  unfold fX11_look_b43 at hF
  refine lv_iconst (v := 0) C.1.1 C.1.2.1 dX11_look_43 (by decide) ?_
  refine lv_goto (tgt := 55) C.1.1 C.1.2.1 dX11_look_44 (by decide) ?_
  exact bX11_look_55 C O Tb X (lv_sub hl [] rfl) hF
noncomputable def fX11_look_b38 (N : Nat) (x2 : Int32) (S : gS) : Option (tR) := if x2 = ((-1)) then fX11_look_b43 N S else fX11_look_b47 N x2 S
theorem bX11_look_38 {N : Nat} {x2 : Int32} {S : gS} {H : Heap} {locs : List Loc} {ls : Array Slot} {o : tR} (C : gC p s m args meth c cX11_look 3 RX11 ((some .int)) D (xtys cI cB cZ cQ) xord g Am) (O : tO l g cI cB cZ cQ Am aK aV) (Tb : ∀ x ∈ c.exceptionTable.toList, False) (X : gX D (xcell g cI cB cZ cQ) xord g S s H locs) (hl : lv_has ls 3 [(0, .ref (g 0)), (2, .int x2)]) (hF : fX11_look_b38 N x2 S = some o) : W p l e (rmx 7 1) s m args below meth c H locs 1 6 (gEX below args s D (xtys cI cB cZ cQ) (xcell g cI cB cZ cQ) xord g 1 false o) (F0 m 38 ls []) := by
  unfold fX11_look_b38 at hF
  refine lv_iload_n C.1.1 C.1.2.1 dX11_look_38 rfl (lv_at hl 1 rfl) ?_
  refine lv_iconst (v := (-1)) C.1.1 C.1.2.1 dX11_look_39 (by decide) ?_
  refine lv_icmp_ne (tgt := 47) C.1.1 C.1.2.1 dX11_look_40 (by decide) (fun h_z => ?_) (fun h_z => ?_)
  · rw [if_neg h_z] at hF
    exact bX11_look_47 C O Tb X (lv_sub hl [0, 1] rfl) hF
  · rw [if_pos h_z] at hF
    exact bX11_look_43 C O Tb X (lv_sub hl [] rfl) hF
noncomputable def fX11_look_b36 (N : Nat) (x2 : Int32) (S : gS) : Option (tR) := some (0, x2, S)
theorem bX11_look_36 {N : Nat} {x2 : Int32} {S : gS} {H : Heap} {locs : List Loc} {ls : Array Slot} {o : tR} (C : gC p s m args meth c cX11_look 3 RX11 ((some .int)) D (xtys cI cB cZ cQ) xord g Am) (O : tO l g cI cB cZ cQ Am aK aV) (Tb : ∀ x ∈ c.exceptionTable.toList, False) (X : gX D (xcell g cI cB cZ cQ) xord g S s H locs) (hl : lv_has ls 3 [(2, .int x2)]) (hF : fX11_look_b36 N x2 S = some o) : W p l e (rmx 7 1) s m args below meth c H locs 1 6 (gEX below args s D (xtys cI cB cZ cQ) (xcell g cI cB cZ cQ) xord g 1 false o) (F0 m 36 ls []) := by
  unfold fX11_look_b36 at hF
  refine lv_iload_n C.1.1 C.1.2.1 dX11_look_36 rfl (lv_at hl 0 rfl) ?_
  cases hF
  exact t_iret C X (by decide) (by decide) dX11_look_37
noncomputable def fX11_look_b0 (N : Nat) (x1 : Int32) (S : gS) : Option (tR) := bnx (fX11_needWhat N x1 1 S) fun q1 => (lt (xtw q1.2.2) fun T1 => (bnd (fX2_weigh N T1 20 q1.2.2) fun q2 => (bnd (fX2_bestLook N q2.2) fun q3 => (if x1 = 0 then fX11_look_b36 N q3.1 q3.2 else fX11_look_b38 N q3.1 q3.2))))
theorem bX11_look_0 {N : Nat} {x1 : Int32} {S : gS} {H : Heap} {locs : List Loc} {ls : Array Slot} {o : tR} (C : gC p s m args meth c cX11_look 3 RX11 ((some .int)) D (xtys cI cB cZ cQ) xord g Am) (O : tO l g cI cB cZ cQ Am aK aV) (Tb : ∀ x ∈ c.exceptionTable.toList, False) (X : gX D (xcell g cI cB cZ cQ) xord g S s H locs) (hl : lv_has ls 3 [(0, .ref (g 0)), (1, .int x1)]) (hF : fX11_look_b0 N x1 S = some o) : W p l e (rmx 7 1) s m args below meth c H locs 0 0 (gEX below args s D (xtys cI cB cZ cQ) (xcell g cI cB cZ cQ) xord g 1 false o) (F0 m 0 ls []) := by
  unfold fX11_look_b0 at hF
  refine lv_iload_n C.1.1 C.1.2.1 dX11_look_0 rfl (lv_at hl 1 rfl) ?_
  refine lv_iconst (v := 1) C.1.1 C.1.2.1 dX11_look_1 (by decide) ?_
  rcases (bnx_some hF).symm with ⟨q1, hq1, zq1, eo⟩ | ⟨q1, hq1, zq1, hF⟩
  · subst eo
    exact t_thr (t_preS C X xv_X11_236 (kX11_needWhat O C.2.2.2.2.1 N x1 1 S q1 hq1) (Nat.le_of_ble_eq_true rfl) (Nat.le_of_ble_eq_true rfl) (Nat.le_of_ble_eq_true rfl) (Nat.le_of_ble_eq_true rfl) rfl hl.1 rfl (Nat.le_of_ble_eq_true rfl) dX11_look_2) zq1 C Tb X (by decide) (by decide)
  refine t_okv (t_preS C X xv_X11_236 (kX11_needWhat O C.2.2.2.2.1 N x1 1 S q1 hq1) (Nat.le_of_ble_eq_true rfl) (Nat.le_of_ble_eq_true rfl) (Nat.le_of_ble_eq_true rfl) (Nat.le_of_ble_eq_true rfl) rfl hl.1 rfl (Nat.le_of_ble_eq_true rfl) dX11_look_2) zq1 X (fun H locs X => ?_)
  refine W.widen (k := 1) (n := 6) (by decide) (by decide) ?_
  refine lv_aload_n C.1.1 C.1.2.1 dX11_look_5 rfl (lv_at hl 0 rfl) ?_
  refine xg_X11_50 C O.1.1 X (k := 0) rfl (j := 62) rfl dX11_look_6 ?_
  refine lv_aload_n C.1.1 C.1.2.1 dX11_look_9 rfl (lv_at hl 0 rfl) ?_
  obtain ⟨T1, eT1, hF⟩ := lt_some hF
  have hk_T1 := xtw_k eT1
  refine xg_X11_57 C O.1.1 X (T := T1) eT1 (k := 0) rfl dX11_look_10 ?_
  refine lv_aload_n C.1.1 C.1.2.1 dX11_look_13 rfl (lv_at hl 0 rfl) ?_
  refine xg_X11_19 C O.1.1 X (k := 0) rfl (j := 20) rfl dX11_look_14 ?_
  refine lv_aload_n C.1.1 C.1.2.1 dX11_look_17 rfl (lv_at hl 0 rfl) ?_
  refine xg_X11_36 C O.1.1 X (k := 0) rfl (j := 51) rfl dX11_look_18 ?_
  obtain ⟨q2, hq2, hF⟩ := bnd_some hF
  refine x_callV C X (k := 62) xv_X11_327 (rfl : xk 62 = 2) rfl rfl (by decide) (kX2_weigh O.1.1 C.2.2.2.2.1 N T1 20 (hk_T1 : xk T1 = 9) (rfl : xk 20 = 1) q1.2.2 q2 hq2) (Nat.le_of_ble_eq_true rfl) (Nat.le_of_ble_eq_true rfl) (Nat.le_of_ble_eq_true rfl) (Nat.le_of_ble_eq_true rfl) rfl hl.1 rfl (Nat.le_of_ble_eq_true rfl) dX11_look_21 (fun H locs X => ?_)
  refine lv_aload_n C.1.1 C.1.2.1 dX11_look_24 rfl (lv_at hl 0 rfl) ?_
  refine xg_X11_50 C O.1.1 X (k := 0) rfl (j := 62) rfl dX11_look_25 ?_
  obtain ⟨q3, hq3, hF⟩ := bnd_some hF
  refine x_callVi C X (k := 62) xv_X11_338 (rfl : xk 62 = 2) rfl rfl (by decide) (kX2_bestLook O.1 C.2.2.2.2.1 N q2.2 q3 hq3) (Nat.le_of_ble_eq_true rfl) (Nat.le_of_ble_eq_true rfl) (Nat.le_of_ble_eq_true rfl) (Nat.le_of_ble_eq_true rfl) rfl hl.1 rfl (Nat.le_of_ble_eq_true rfl) dX11_look_28 (fun H locs X => ?_)
  refine lv_istore_n (lv' := [(2, .int q3.1), (0, .ref (g 0)), (1, .int x1)]) C.1.1 C.1.2.1 dX11_look_31 rfl hl (by decide) rfl (fun ls hl => ?_)
  refine lv_iload_n C.1.1 C.1.2.1 dX11_look_32 rfl (lv_at hl 2 rfl) ?_
  refine lv_if_ne (tgt := 38) C.1.1 C.1.2.1 dX11_look_33 (by decide) (fun h_z => ?_) (fun h_z => ?_)
  · rw [if_neg h_z] at hF
    exact bX11_look_38 C O Tb X (lv_sub hl [1, 0] rfl) hF
  · rw [if_pos h_z] at hF
    exact bX11_look_36 C O Tb X (lv_sub hl [0] rfl) hF
noncomputable def fX11_look (N : Nat) (x1 : Int32) (S : gS) : Option (tR) := fX11_look_b0 N x1 S
theorem kX11_look {l : Launch} {D : va_G} {g : Nat → Nat} {cI cB cZ cQ : ClassId} {Am : (Nat → Prop) → State → Heap → Prop} {aK aV : Nat → Nat} (O : tO l g cI cB cZ cQ Am aK aV) (P : gAm Am) (N : Nat) (x1 : Int32) (S : gS) (o : tR) (hF : fX11_look N x1 S = some o) : gN l yX11_look cX11_look 3 ((some .int)) 7 1 D (xtys cI cB cZ cQ) (xcell g cI cB cZ cQ) xord g Am [.ref (g 0), .int x1] S false o :=
  gN_of P (by decide) (Nat.le_of_ble_eq_true rfl) (fun p e s m args below meth c ls C Tb X hl => bX11_look_0 C O Tb X (lv_sub hl [0, 1] rfl) hF)
-- X11.drought
noncomputable def fX11_drought_b145 (N : Nat) (x4 : Int32) (S : gS) : Option (tR) := some (0, x4, S)
theorem bX11_drought_145 {N : Nat} {x4 : Int32} {S : gS} {H : Heap} {locs : List Loc} {ls : Array Slot} {o : tR} (C : gC p s m args meth c cX11_drought 10 RX11 ((some .int)) D (xtys cI cB cZ cQ) xord g Am) (O : tO l g cI cB cZ cQ Am aK aV) (Tb : ∀ x ∈ c.exceptionTable.toList, False) (X : gX D (xcell g cI cB cZ cQ) xord g S s H locs) (hl : lv_has ls 10 [(4, .int x4)]) (hF : fX11_drought_b145 N x4 S = some o) : W p l e (rmx 7 3) s m args below meth c H locs 3 18 (gEX below args s D (xtys cI cB cZ cQ) (xcell g cI cB cZ cQ) xord g 3 false o) (F0 m 145 ls []) := by
  unfold fX11_drought_b145 at hF
  refine lv_iload C.1.1 C.1.2.1 dX11_drought_145 (lv_at hl 0 rfl) ?_
  cases hF
  exact t_iret C X (by decide) (by decide) dX11_drought_147
noncomputable def fX11_drought_b139 (N : Nat) (r24 : Int32 → Int32 → Int32 → Int32 → Int32 → gS → Option (tR)) (x1 : Int32) (x2 : Int32) (x3 : Int32) (x4 : Int32) (x5 : Int32) (S : gS) : Option (tR) := r24 x1 x2 x3 x4 ((x5 + 1 : Int32)) S
theorem bX11_drought_139 {N : Nat} {r24 : Int32 → Int32 → Int32 → Int32 → Int32 → gS → Option (tR)} {x1 : Int32} {x2 : Int32} {x3 : Int32} {x4 : Int32} {x5 : Int32} {S : gS} {H : Heap} {locs : List Loc} {ls : Array Slot} {o : tR} (C : gC p s m args meth c cX11_drought 10 RX11 ((some .int)) D (xtys cI cB cZ cQ) xord g Am) (O : tO l g cI cB cZ cQ Am aK aV) (Tb : ∀ x ∈ c.exceptionTable.toList, False) (K24 : ∀ (x1 : Int32) (x2 : Int32) (x3 : Int32) (x4 : Int32) (x5 : Int32) (S : gS) (H : Heap) (locs : List Loc) (ls : Array Slot), gX D (xcell g cI cB cZ cQ) xord g S s H locs → lv_has ls 10 [(0, .ref (g 0)), (1, .int x1), (2, .int x2), (3, .int x3), (4, .int x4), (5, .int x5)] → r24 x1 x2 x3 x4 x5 S = some o → W p l e (rmx 7 3) s m args below meth c H locs 3 18 (gEX below args s D (xtys cI cB cZ cQ) (xcell g cI cB cZ cQ) xord g 3 false o) (F0 m 24 ls [])) (X : gX D (xcell g cI cB cZ cQ) xord g S s H locs) (hl : lv_has ls 10 [(0, .ref (g 0)), (1, .int x1), (2, .int x2), (3, .int x3), (4, .int x4), (5, .int x5)]) (hF : fX11_drought_b139 N r24 x1 x2 x3 x4 x5 S = some o) : W p l e (rmx 7 3) s m args below meth c H locs 3 18 (gEX below args s D (xtys cI cB cZ cQ) (xcell g cI cB cZ cQ) xord g 3 false o) (F0 m 139 ls []) := by
  unfold fX11_drought_b139 at hF
  refine lv_iinc (v := (x5 + 1 : Int32)) (lv' := [(5, .int ((x5 + 1 : Int32))), (0, .ref (g 0)), (1, .int x1), (2, .int x2), (3, .int x3), (4, .int x4)]) C.1.1 C.1.2.1 dX11_drought_139 hl (k := 5) rfl rfl (by decide) rfl (fun ls hl => ?_)
  refine lv_goto (tgt := 24) C.1.1 C.1.2.1 dX11_drought_142 (by decide) ?_
  exact K24 _ _ _ _ _ _ _ _ _ X (lv_sub hl [1, 2, 3, 4, 5, 0] rfl) hF
noncomputable def fX11_drought_b132 (N : Nat) (r24 : Int32 → Int32 → Int32 → Int32 → Int32 → gS → Option (tR)) (x1 : Int32) (x2 : Int32) (x3 : Int32) (x4 : Int32) (x5 : Int32) (x6 : Int32) (S : gS) : Option (tR) := fX11_drought_b139 N r24 x1 x2 x3 ((x4 + x6 : Int32)) x5 S
theorem bX11_drought_132 {N : Nat} {r24 : Int32 → Int32 → Int32 → Int32 → Int32 → gS → Option (tR)} {x1 : Int32} {x2 : Int32} {x3 : Int32} {x4 : Int32} {x5 : Int32} {x6 : Int32} {S : gS} {H : Heap} {locs : List Loc} {ls : Array Slot} {o : tR} (C : gC p s m args meth c cX11_drought 10 RX11 ((some .int)) D (xtys cI cB cZ cQ) xord g Am) (O : tO l g cI cB cZ cQ Am aK aV) (Tb : ∀ x ∈ c.exceptionTable.toList, False) (K24 : ∀ (x1 : Int32) (x2 : Int32) (x3 : Int32) (x4 : Int32) (x5 : Int32) (S : gS) (H : Heap) (locs : List Loc) (ls : Array Slot), gX D (xcell g cI cB cZ cQ) xord g S s H locs → lv_has ls 10 [(0, .ref (g 0)), (1, .int x1), (2, .int x2), (3, .int x3), (4, .int x4), (5, .int x5)] → r24 x1 x2 x3 x4 x5 S = some o → W p l e (rmx 7 3) s m args below meth c H locs 3 18 (gEX below args s D (xtys cI cB cZ cQ) (xcell g cI cB cZ cQ) xord g 3 false o) (F0 m 24 ls [])) (X : gX D (xcell g cI cB cZ cQ) xord g S s H locs) (hl : lv_has ls 10 [(0, .ref (g 0)), (1, .int x1), (2, .int x2), (3, .int x3), (4, .int x4), (5, .int x5), (6, .int x6)]) (hF : fX11_drought_b132 N r24 x1 x2 x3 x4 x5 x6 S = some o) : W p l e (rmx 7 3) s m args below meth c H locs 3 18 (gEX below args s D (xtys cI cB cZ cQ) (xcell g cI cB cZ cQ) xord g 3 false o) (F0 m 132 ls []) := by
  unfold fX11_drought_b132 at hF
  refine lv_iload C.1.1 C.1.2.1 dX11_drought_132 (lv_at hl 4 rfl) ?_
  refine lv_iload C.1.1 C.1.2.1 dX11_drought_134 (lv_at hl 6 rfl) ?_
  refine lv_iadd C.1.1 C.1.2.1 dX11_drought_136 ?_
  refine lv_istore (lv' := [(4, .int ((x4 + x6 : Int32))), (0, .ref (g 0)), (1, .int x1), (2, .int x2), (3, .int x3), (5, .int x5), (6, .int x6)]) C.1.1 C.1.2.1 dX11_drought_137 hl (by decide) rfl (fun ls hl => ?_)
  exact bX11_drought_139 C O Tb K24 X (lv_sub hl [1, 2, 3, 4, 0, 5] rfl) hF
noncomputable def fX11_drought_b127 (N : Nat) (r24 : Int32 → Int32 → Int32 → Int32 → Int32 → gS → Option (tR)) (x1 : Int32) (x2 : Int32) (x3 : Int32) (x4 : Int32) (x5 : Int32) (x6 : Int32) (x7 : Int32) (S : gS) : Option (tR) := if x7 = 0 then fX11_drought_b139 N r24 x1 x2 x3 x4 x5 S else fX11_drought_b132 N r24 x1 x2 x3 x4 x5 x6 S
theorem bX11_drought_127 {N : Nat} {r24 : Int32 → Int32 → Int32 → Int32 → Int32 → gS → Option (tR)} {x1 : Int32} {x2 : Int32} {x3 : Int32} {x4 : Int32} {x5 : Int32} {x6 : Int32} {x7 : Int32} {S : gS} {H : Heap} {locs : List Loc} {ls : Array Slot} {o : tR} (C : gC p s m args meth c cX11_drought 10 RX11 ((some .int)) D (xtys cI cB cZ cQ) xord g Am) (O : tO l g cI cB cZ cQ Am aK aV) (Tb : ∀ x ∈ c.exceptionTable.toList, False) (K24 : ∀ (x1 : Int32) (x2 : Int32) (x3 : Int32) (x4 : Int32) (x5 : Int32) (S : gS) (H : Heap) (locs : List Loc) (ls : Array Slot), gX D (xcell g cI cB cZ cQ) xord g S s H locs → lv_has ls 10 [(0, .ref (g 0)), (1, .int x1), (2, .int x2), (3, .int x3), (4, .int x4), (5, .int x5)] → r24 x1 x2 x3 x4 x5 S = some o → W p l e (rmx 7 3) s m args below meth c H locs 3 18 (gEX below args s D (xtys cI cB cZ cQ) (xcell g cI cB cZ cQ) xord g 3 false o) (F0 m 24 ls [])) (X : gX D (xcell g cI cB cZ cQ) xord g S s H locs) (hl : lv_has ls 10 [(0, .ref (g 0)), (1, .int x1), (2, .int x2), (3, .int x3), (4, .int x4), (5, .int x5), (6, .int x6), (7, .int x7)]) (hF : fX11_drought_b127 N r24 x1 x2 x3 x4 x5 x6 x7 S = some o) : W p l e (rmx 7 3) s m args below meth c H locs 3 18 (gEX below args s D (xtys cI cB cZ cQ) (xcell g cI cB cZ cQ) xord g 3 false o) (F0 m 127 ls []) := by
  unfold fX11_drought_b127 at hF
  refine lv_iload C.1.1 C.1.2.1 dX11_drought_127 (lv_at hl 7 rfl) ?_
  refine lv_if_eq (tgt := 139) C.1.1 C.1.2.1 dX11_drought_129 (by decide) (fun h_z => ?_) (fun h_z => ?_)
  · rw [if_pos h_z] at hF
    exact bX11_drought_139 C O Tb K24 X (lv_sub hl [0, 1, 2, 3, 4, 5] rfl) hF
  · rw [if_neg h_z] at hF
    exact bX11_drought_132 C O Tb K24 X (lv_sub hl [0, 1, 2, 3, 4, 5, 6] rfl) hF
noncomputable def fX11_drought_b121 (N : Nat) (r24 : Int32 → Int32 → Int32 → Int32 → Int32 → gS → Option (tR)) (r60 : Int32 → Int32 → Int32 → Int32 → Int32 → Int32 → Int32 → Int32 → gS → Option (tR)) (x1 : Int32) (x2 : Int32) (x3 : Int32) (x4 : Int32) (x5 : Int32) (x6 : Int32) (x7 : Int32) (x8 : Int32) (S : gS) : Option (tR) := r60 x1 x2 x3 x4 x5 x6 x7 ((x8 + 1 : Int32)) S
theorem bX11_drought_121 {N : Nat} {r24 : Int32 → Int32 → Int32 → Int32 → Int32 → gS → Option (tR)} {r60 : Int32 → Int32 → Int32 → Int32 → Int32 → Int32 → Int32 → Int32 → gS → Option (tR)} {x1 : Int32} {x2 : Int32} {x3 : Int32} {x4 : Int32} {x5 : Int32} {x6 : Int32} {x7 : Int32} {x8 : Int32} {S : gS} {H : Heap} {locs : List Loc} {ls : Array Slot} {o : tR} (C : gC p s m args meth c cX11_drought 10 RX11 ((some .int)) D (xtys cI cB cZ cQ) xord g Am) (O : tO l g cI cB cZ cQ Am aK aV) (Tb : ∀ x ∈ c.exceptionTable.toList, False) (K24 : ∀ (x1 : Int32) (x2 : Int32) (x3 : Int32) (x4 : Int32) (x5 : Int32) (S : gS) (H : Heap) (locs : List Loc) (ls : Array Slot), gX D (xcell g cI cB cZ cQ) xord g S s H locs → lv_has ls 10 [(0, .ref (g 0)), (1, .int x1), (2, .int x2), (3, .int x3), (4, .int x4), (5, .int x5)] → r24 x1 x2 x3 x4 x5 S = some o → W p l e (rmx 7 3) s m args below meth c H locs 3 18 (gEX below args s D (xtys cI cB cZ cQ) (xcell g cI cB cZ cQ) xord g 3 false o) (F0 m 24 ls [])) (K60 : ∀ (x1 : Int32) (x2 : Int32) (x3 : Int32) (x4 : Int32) (x5 : Int32) (x6 : Int32) (x7 : Int32) (x8 : Int32) (S : gS) (H : Heap) (locs : List Loc) (ls : Array Slot), gX D (xcell g cI cB cZ cQ) xord g S s H locs → lv_has ls 10 [(0, .ref (g 0)), (1, .int x1), (2, .int x2), (3, .int x3), (4, .int x4), (5, .int x5), (6, .int x6), (7, .int x7), (8, .int x8)] → r60 x1 x2 x3 x4 x5 x6 x7 x8 S = some o → W p l e (rmx 7 3) s m args below meth c H locs 3 18 (gEX below args s D (xtys cI cB cZ cQ) (xcell g cI cB cZ cQ) xord g 3 false o) (F0 m 60 ls [])) (X : gX D (xcell g cI cB cZ cQ) xord g S s H locs) (hl : lv_has ls 10 [(0, .ref (g 0)), (1, .int x1), (2, .int x2), (3, .int x3), (4, .int x4), (5, .int x5), (6, .int x6), (7, .int x7), (8, .int x8)]) (hF : fX11_drought_b121 N r24 r60 x1 x2 x3 x4 x5 x6 x7 x8 S = some o) : W p l e (rmx 7 3) s m args below meth c H locs 3 18 (gEX below args s D (xtys cI cB cZ cQ) (xcell g cI cB cZ cQ) xord g 3 false o) (F0 m 121 ls []) := by
  unfold fX11_drought_b121 at hF
  refine lv_iinc (v := (x8 + 1 : Int32)) (lv' := [(8, .int ((x8 + 1 : Int32))), (0, .ref (g 0)), (1, .int x1), (2, .int x2), (3, .int x3), (4, .int x4), (5, .int x5), (6, .int x6), (7, .int x7)]) C.1.1 C.1.2.1 dX11_drought_121 hl (k := 8) rfl rfl (by decide) rfl (fun ls hl => ?_)
  refine lv_goto (tgt := 60) C.1.1 C.1.2.1 dX11_drought_124 (by decide) ?_
  exact K60 _ _ _ _ _ _ _ _ _ _ _ _ X (lv_sub hl [1, 2, 3, 4, 5, 6, 7, 8, 0] rfl) hF
noncomputable def fX11_drought_b118 (N : Nat) (r24 : Int32 → Int32 → Int32 → Int32 → Int32 → gS → Option (tR)) (r60 : Int32 → Int32 → Int32 → Int32 → Int32 → Int32 → Int32 → Int32 → gS → Option (tR)) (x1 : Int32) (x2 : Int32) (x3 : Int32) (x4 : Int32) (x5 : Int32) (x6 : Int32) (x8 : Int32) (S : gS) : Option (tR) := fX11_drought_b121 N r24 r60 x1 x2 x3 x4 x5 x6 1 x8 S
theorem bX11_drought_118 {N : Nat} {r24 : Int32 → Int32 → Int32 → Int32 → Int32 → gS → Option (tR)} {r60 : Int32 → Int32 → Int32 → Int32 → Int32 → Int32 → Int32 → Int32 → gS → Option (tR)} {x1 : Int32} {x2 : Int32} {x3 : Int32} {x4 : Int32} {x5 : Int32} {x6 : Int32} {x8 : Int32} {S : gS} {H : Heap} {locs : List Loc} {ls : Array Slot} {o : tR} (C : gC p s m args meth c cX11_drought 10 RX11 ((some .int)) D (xtys cI cB cZ cQ) xord g Am) (O : tO l g cI cB cZ cQ Am aK aV) (Tb : ∀ x ∈ c.exceptionTable.toList, False) (K24 : ∀ (x1 : Int32) (x2 : Int32) (x3 : Int32) (x4 : Int32) (x5 : Int32) (S : gS) (H : Heap) (locs : List Loc) (ls : Array Slot), gX D (xcell g cI cB cZ cQ) xord g S s H locs → lv_has ls 10 [(0, .ref (g 0)), (1, .int x1), (2, .int x2), (3, .int x3), (4, .int x4), (5, .int x5)] → r24 x1 x2 x3 x4 x5 S = some o → W p l e (rmx 7 3) s m args below meth c H locs 3 18 (gEX below args s D (xtys cI cB cZ cQ) (xcell g cI cB cZ cQ) xord g 3 false o) (F0 m 24 ls [])) (K60 : ∀ (x1 : Int32) (x2 : Int32) (x3 : Int32) (x4 : Int32) (x5 : Int32) (x6 : Int32) (x7 : Int32) (x8 : Int32) (S : gS) (H : Heap) (locs : List Loc) (ls : Array Slot), gX D (xcell g cI cB cZ cQ) xord g S s H locs → lv_has ls 10 [(0, .ref (g 0)), (1, .int x1), (2, .int x2), (3, .int x3), (4, .int x4), (5, .int x5), (6, .int x6), (7, .int x7), (8, .int x8)] → r60 x1 x2 x3 x4 x5 x6 x7 x8 S = some o → W p l e (rmx 7 3) s m args below meth c H locs 3 18 (gEX below args s D (xtys cI cB cZ cQ) (xcell g cI cB cZ cQ) xord g 3 false o) (F0 m 60 ls [])) (X : gX D (xcell g cI cB cZ cQ) xord g S s H locs) (hl : lv_has ls 10 [(0, .ref (g 0)), (1, .int x1), (2, .int x2), (3, .int x3), (4, .int x4), (5, .int x5), (6, .int x6), (8, .int x8)]) (hF : fX11_drought_b118 N r24 r60 x1 x2 x3 x4 x5 x6 x8 S = some o) : W p l e (rmx 7 3) s m args below meth c H locs 3 18 (gEX below args s D (xtys cI cB cZ cQ) (xcell g cI cB cZ cQ) xord g 3 false o) (F0 m 118 ls []) := by
  unfold fX11_drought_b118 at hF
  refine lv_iconst (v := 1) C.1.1 C.1.2.1 dX11_drought_118 (by decide) ?_
  refine lv_istore (lv' := [(7, .int 1), (0, .ref (g 0)), (1, .int x1), (2, .int x2), (3, .int x3), (4, .int x4), (5, .int x5), (6, .int x6), (8, .int x8)]) C.1.1 C.1.2.1 dX11_drought_119 hl (by decide) rfl (fun ls hl => ?_)
  exact bX11_drought_121 C O Tb K24 K60 X (lv_sub hl [1, 2, 3, 4, 5, 6, 7, 0, 8] rfl) hF
noncomputable def fX11_drought_b112 (N : Nat) (r24 : Int32 → Int32 → Int32 → Int32 → Int32 → gS → Option (tR)) (r60 : Int32 → Int32 → Int32 → Int32 → Int32 → Int32 → Int32 → Int32 → gS → Option (tR)) (x1 : Int32) (x2 : Int32) (x3 : Int32) (x4 : Int32) (x5 : Int32) (x6 : Int32) (x7 : Int32) (x8 : Int32) (u1 : Nat) (t2 : Int32) (S : gS) : Option (tR) := bnd (fX10_passHour N u1 t2 S) fun q1 => (if q1.1 = 0 then fX11_drought_b121 N r24 r60 x1 x2 x3 x4 x5 x6 x7 x8 q1.2 else fX11_drought_b118 N r24 r60 x1 x2 x3 x4 x5 x6 x8 q1.2)
theorem bX11_drought_112 {N : Nat} {r24 : Int32 → Int32 → Int32 → Int32 → Int32 → gS → Option (tR)} {r60 : Int32 → Int32 → Int32 → Int32 → Int32 → Int32 → Int32 → Int32 → gS → Option (tR)} {x1 : Int32} {x2 : Int32} {x3 : Int32} {x4 : Int32} {x5 : Int32} {x6 : Int32} {x7 : Int32} {x8 : Int32} {u1 : Nat} {t2 : Int32} {S : gS} {H : Heap} {locs : List Loc} {ls : Array Slot} {o : tR} (C : gC p s m args meth c cX11_drought 10 RX11 ((some .int)) D (xtys cI cB cZ cQ) xord g Am) (O : tO l g cI cB cZ cQ Am aK aV) (Tb : ∀ x ∈ c.exceptionTable.toList, False) (K24 : ∀ (x1 : Int32) (x2 : Int32) (x3 : Int32) (x4 : Int32) (x5 : Int32) (S : gS) (H : Heap) (locs : List Loc) (ls : Array Slot), gX D (xcell g cI cB cZ cQ) xord g S s H locs → lv_has ls 10 [(0, .ref (g 0)), (1, .int x1), (2, .int x2), (3, .int x3), (4, .int x4), (5, .int x5)] → r24 x1 x2 x3 x4 x5 S = some o → W p l e (rmx 7 3) s m args below meth c H locs 3 18 (gEX below args s D (xtys cI cB cZ cQ) (xcell g cI cB cZ cQ) xord g 3 false o) (F0 m 24 ls [])) (K60 : ∀ (x1 : Int32) (x2 : Int32) (x3 : Int32) (x4 : Int32) (x5 : Int32) (x6 : Int32) (x7 : Int32) (x8 : Int32) (S : gS) (H : Heap) (locs : List Loc) (ls : Array Slot), gX D (xcell g cI cB cZ cQ) xord g S s H locs → lv_has ls 10 [(0, .ref (g 0)), (1, .int x1), (2, .int x2), (3, .int x3), (4, .int x4), (5, .int x5), (6, .int x6), (7, .int x7), (8, .int x8)] → r60 x1 x2 x3 x4 x5 x6 x7 x8 S = some o → W p l e (rmx 7 3) s m args below meth c H locs 3 18 (gEX below args s D (xtys cI cB cZ cQ) (xcell g cI cB cZ cQ) xord g 3 false o) (F0 m 60 ls [])) (hk_u1 : xk u1 = 9) (X : gX D (xcell g cI cB cZ cQ) xord g S s H locs) (hl : lv_has ls 10 [(0, .ref (g 0)), (1, .int x1), (2, .int x2), (3, .int x3), (4, .int x4), (5, .int x5), (6, .int x6), (7, .int x7), (8, .int x8)]) (hF : fX11_drought_b112 N r24 r60 x1 x2 x3 x4 x5 x6 x7 x8 u1 t2 S = some o) : W p l e (rmx 7 3) s m args below meth c H locs 3 18 (gEX below args s D (xtys cI cB cZ cQ) (xcell g cI cB cZ cQ) xord g 3 false o) (F0 m 112 ls [.int t2, .ref (g u1), .ref (g 51)]) := by
  unfold fX11_drought_b112 at hF
  obtain ⟨q1, hq1, hF⟩ := bnd_some hF
  refine x_callVi C X (k := 51) xv_X11_262 (rfl : xk 51 = 10) rfl rfl (by decide) (kX10_passHour O.1.1 C.2.2.2.2.1 N u1 t2 (hk_u1 : xk u1 = 9) S q1 hq1) (Nat.le_of_ble_eq_true rfl) (Nat.le_of_ble_eq_true rfl) (Nat.le_of_ble_eq_true rfl) (Nat.le_of_ble_eq_true rfl) rfl hl.1 rfl (Nat.le_of_ble_eq_true rfl) dX11_drought_112 (fun H locs X => ?_)
  refine lv_if_eq (tgt := 121) C.1.1 C.1.2.1 dX11_drought_115 (by decide) (fun h_z => ?_) (fun h_z => ?_)
  · rw [if_pos h_z] at hF
    exact bX11_drought_121 C O Tb K24 K60 X (lv_sub hl [0, 1, 2, 3, 4, 5, 6, 7, 8] rfl) hF
  · rw [if_neg h_z] at hF
    exact bX11_drought_118 C O Tb K24 K60 X (lv_sub hl [0, 1, 2, 3, 4, 5, 6, 8] rfl) hF
noncomputable def fX11_drought_b110 (N : Nat) (r24 : Int32 → Int32 → Int32 → Int32 → Int32 → gS → Option (tR)) (r60 : Int32 → Int32 → Int32 → Int32 → Int32 → Int32 → Int32 → Int32 → gS → Option (tR)) (x1 : Int32) (x2 : Int32) (x3 : Int32) (x4 : Int32) (x5 : Int32) (x6 : Int32) (x7 : Int32) (x8 : Int32) (u1 : Nat) (S : gS) : Option (tR) := fX11_drought_b112 N r24 r60 x1 x2 x3 x4 x5 x6 x7 x8 u1 9 S
theorem bX11_drought_110 {N : Nat} {r24 : Int32 → Int32 → Int32 → Int32 → Int32 → gS → Option (tR)} {r60 : Int32 → Int32 → Int32 → Int32 → Int32 → Int32 → Int32 → Int32 → gS → Option (tR)} {x1 : Int32} {x2 : Int32} {x3 : Int32} {x4 : Int32} {x5 : Int32} {x6 : Int32} {x7 : Int32} {x8 : Int32} {u1 : Nat} {S : gS} {H : Heap} {locs : List Loc} {ls : Array Slot} {o : tR} (C : gC p s m args meth c cX11_drought 10 RX11 ((some .int)) D (xtys cI cB cZ cQ) xord g Am) (O : tO l g cI cB cZ cQ Am aK aV) (Tb : ∀ x ∈ c.exceptionTable.toList, False) (K24 : ∀ (x1 : Int32) (x2 : Int32) (x3 : Int32) (x4 : Int32) (x5 : Int32) (S : gS) (H : Heap) (locs : List Loc) (ls : Array Slot), gX D (xcell g cI cB cZ cQ) xord g S s H locs → lv_has ls 10 [(0, .ref (g 0)), (1, .int x1), (2, .int x2), (3, .int x3), (4, .int x4), (5, .int x5)] → r24 x1 x2 x3 x4 x5 S = some o → W p l e (rmx 7 3) s m args below meth c H locs 3 18 (gEX below args s D (xtys cI cB cZ cQ) (xcell g cI cB cZ cQ) xord g 3 false o) (F0 m 24 ls [])) (K60 : ∀ (x1 : Int32) (x2 : Int32) (x3 : Int32) (x4 : Int32) (x5 : Int32) (x6 : Int32) (x7 : Int32) (x8 : Int32) (S : gS) (H : Heap) (locs : List Loc) (ls : Array Slot), gX D (xcell g cI cB cZ cQ) xord g S s H locs → lv_has ls 10 [(0, .ref (g 0)), (1, .int x1), (2, .int x2), (3, .int x3), (4, .int x4), (5, .int x5), (6, .int x6), (7, .int x7), (8, .int x8)] → r60 x1 x2 x3 x4 x5 x6 x7 x8 S = some o → W p l e (rmx 7 3) s m args below meth c H locs 3 18 (gEX below args s D (xtys cI cB cZ cQ) (xcell g cI cB cZ cQ) xord g 3 false o) (F0 m 60 ls [])) (hk_u1 : xk u1 = 9) (X : gX D (xcell g cI cB cZ cQ) xord g S s H locs) (hl : lv_has ls 10 [(0, .ref (g 0)), (1, .int x1), (2, .int x2), (3, .int x3), (4, .int x4), (5, .int x5), (6, .int x6), (7, .int x7), (8, .int x8)]) (hF : fX11_drought_b110 N r24 r60 x1 x2 x3 x4 x5 x6 x7 x8 u1 S = some o) : W p l e (rmx 7 3) s m args below meth c H locs 3 18 (gEX below args s D (xtys cI cB cZ cQ) (xcell g cI cB cZ cQ) xord g 3 false o) (F0 m 110 ls [.ref (g u1), .ref (g 51)]) := by
  unfold fX11_drought_b110 at hF
  refine lv_bipush (v := 9) C.1.1 C.1.2.1 dX11_drought_110 (by decide) ?_
  exact bX11_drought_112 C O Tb K24 K60 (hk_u1 : xk u1 = 9) X (lv_sub hl [0, 1, 2, 3, 4, 5, 6, 7, 8] rfl) hF
noncomputable def fX11_drought_b106 (N : Nat) (r24 : Int32 → Int32 → Int32 → Int32 → Int32 → gS → Option (tR)) (r60 : Int32 → Int32 → Int32 → Int32 → Int32 → Int32 → Int32 → Int32 → gS → Option (tR)) (x1 : Int32) (x2 : Int32) (x3 : Int32) (x4 : Int32) (x5 : Int32) (x6 : Int32) (x7 : Int32) (x8 : Int32) (u1 : Nat) (S : gS) : Option (tR) := fX11_drought_b112 N r24 r60 x1 x2 x3 x4 x5 x6 x7 x8 u1 0 S
theorem bX11_drought_106 {N : Nat} {r24 : Int32 → Int32 → Int32 → Int32 → Int32 → gS → Option (tR)} {r60 : Int32 → Int32 → Int32 → Int32 → Int32 → Int32 → Int32 → Int32 → gS → Option (tR)} {x1 : Int32} {x2 : Int32} {x3 : Int32} {x4 : Int32} {x5 : Int32} {x6 : Int32} {x7 : Int32} {x8 : Int32} {u1 : Nat} {S : gS} {H : Heap} {locs : List Loc} {ls : Array Slot} {o : tR} (C : gC p s m args meth c cX11_drought 10 RX11 ((some .int)) D (xtys cI cB cZ cQ) xord g Am) (O : tO l g cI cB cZ cQ Am aK aV) (Tb : ∀ x ∈ c.exceptionTable.toList, False) (K24 : ∀ (x1 : Int32) (x2 : Int32) (x3 : Int32) (x4 : Int32) (x5 : Int32) (S : gS) (H : Heap) (locs : List Loc) (ls : Array Slot), gX D (xcell g cI cB cZ cQ) xord g S s H locs → lv_has ls 10 [(0, .ref (g 0)), (1, .int x1), (2, .int x2), (3, .int x3), (4, .int x4), (5, .int x5)] → r24 x1 x2 x3 x4 x5 S = some o → W p l e (rmx 7 3) s m args below meth c H locs 3 18 (gEX below args s D (xtys cI cB cZ cQ) (xcell g cI cB cZ cQ) xord g 3 false o) (F0 m 24 ls [])) (K60 : ∀ (x1 : Int32) (x2 : Int32) (x3 : Int32) (x4 : Int32) (x5 : Int32) (x6 : Int32) (x7 : Int32) (x8 : Int32) (S : gS) (H : Heap) (locs : List Loc) (ls : Array Slot), gX D (xcell g cI cB cZ cQ) xord g S s H locs → lv_has ls 10 [(0, .ref (g 0)), (1, .int x1), (2, .int x2), (3, .int x3), (4, .int x4), (5, .int x5), (6, .int x6), (7, .int x7), (8, .int x8)] → r60 x1 x2 x3 x4 x5 x6 x7 x8 S = some o → W p l e (rmx 7 3) s m args below meth c H locs 3 18 (gEX below args s D (xtys cI cB cZ cQ) (xcell g cI cB cZ cQ) xord g 3 false o) (F0 m 60 ls [])) (hk_u1 : xk u1 = 9) (X : gX D (xcell g cI cB cZ cQ) xord g S s H locs) (hl : lv_has ls 10 [(0, .ref (g 0)), (1, .int x1), (2, .int x2), (3, .int x3), (4, .int x4), (5, .int x5), (6, .int x6), (7, .int x7), (8, .int x8)]) (hF : fX11_drought_b106 N r24 r60 x1 x2 x3 x4 x5 x6 x7 x8 u1 S = some o) : W p l e (rmx 7 3) s m args below meth c H locs 3 18 (gEX below args s D (xtys cI cB cZ cQ) (xcell g cI cB cZ cQ) xord g 3 false o) (F0 m 106 ls [.ref (g u1), .ref (g 51)]) := by
  unfold fX11_drought_b106 at hF
  refine lv_iconst (v := 0) C.1.1 C.1.2.1 dX11_drought_106 (by decide) ?_
  refine lv_goto (tgt := 112) C.1.1 C.1.2.1 dX11_drought_107 (by decide) ?_
  exact bX11_drought_112 C O Tb K24 K60 (hk_u1 : xk u1 = 9) X (lv_sub hl [0, 1, 2, 3, 4, 5, 6, 7, 8] rfl) hF
noncomputable def fX11_drought_b90 (N : Nat) (r24 : Int32 → Int32 → Int32 → Int32 → Int32 → gS → Option (tR)) (r60 : Int32 → Int32 → Int32 → Int32 → Int32 → Int32 → Int32 → Int32 → gS → Option (tR)) (x1 : Int32) (x2 : Int32) (x3 : Int32) (x4 : Int32) (x5 : Int32) (x7 : Int32) (x8 : Int32) (x9 : Int32) (t0 : Int32) (t1 : Int32) (S : gS) : Option (tR) := lt (xtw S) fun T1 => (if x9 = 0 then fX11_drought_b110 N r24 r60 x1 x2 x3 x4 x5 ((t0 * t1 : Int32)) x7 x8 T1 S else fX11_drought_b106 N r24 r60 x1 x2 x3 x4 x5 ((t0 * t1 : Int32)) x7 x8 T1 S)
theorem bX11_drought_90 {N : Nat} {r24 : Int32 → Int32 → Int32 → Int32 → Int32 → gS → Option (tR)} {r60 : Int32 → Int32 → Int32 → Int32 → Int32 → Int32 → Int32 → Int32 → gS → Option (tR)} {x1 : Int32} {x2 : Int32} {x3 : Int32} {x4 : Int32} {x5 : Int32} {x7 : Int32} {x8 : Int32} {x9 : Int32} {t0 : Int32} {t1 : Int32} {S : gS} {H : Heap} {locs : List Loc} {ls : Array Slot} {o : tR} (C : gC p s m args meth c cX11_drought 10 RX11 ((some .int)) D (xtys cI cB cZ cQ) xord g Am) (O : tO l g cI cB cZ cQ Am aK aV) (Tb : ∀ x ∈ c.exceptionTable.toList, False) (K24 : ∀ (x1 : Int32) (x2 : Int32) (x3 : Int32) (x4 : Int32) (x5 : Int32) (S : gS) (H : Heap) (locs : List Loc) (ls : Array Slot), gX D (xcell g cI cB cZ cQ) xord g S s H locs → lv_has ls 10 [(0, .ref (g 0)), (1, .int x1), (2, .int x2), (3, .int x3), (4, .int x4), (5, .int x5)] → r24 x1 x2 x3 x4 x5 S = some o → W p l e (rmx 7 3) s m args below meth c H locs 3 18 (gEX below args s D (xtys cI cB cZ cQ) (xcell g cI cB cZ cQ) xord g 3 false o) (F0 m 24 ls [])) (K60 : ∀ (x1 : Int32) (x2 : Int32) (x3 : Int32) (x4 : Int32) (x5 : Int32) (x6 : Int32) (x7 : Int32) (x8 : Int32) (S : gS) (H : Heap) (locs : List Loc) (ls : Array Slot), gX D (xcell g cI cB cZ cQ) xord g S s H locs → lv_has ls 10 [(0, .ref (g 0)), (1, .int x1), (2, .int x2), (3, .int x3), (4, .int x4), (5, .int x5), (6, .int x6), (7, .int x7), (8, .int x8)] → r60 x1 x2 x3 x4 x5 x6 x7 x8 S = some o → W p l e (rmx 7 3) s m args below meth c H locs 3 18 (gEX below args s D (xtys cI cB cZ cQ) (xcell g cI cB cZ cQ) xord g 3 false o) (F0 m 60 ls [])) (X : gX D (xcell g cI cB cZ cQ) xord g S s H locs) (hl : lv_has ls 10 [(0, .ref (g 0)), (1, .int x1), (2, .int x2), (3, .int x3), (4, .int x4), (5, .int x5), (7, .int x7), (8, .int x8), (9, .int x9)]) (hF : fX11_drought_b90 N r24 r60 x1 x2 x3 x4 x5 x7 x8 x9 t0 t1 S = some o) : W p l e (rmx 7 3) s m args below meth c H locs 3 18 (gEX below args s D (xtys cI cB cZ cQ) (xcell g cI cB cZ cQ) xord g 3 false o) (F0 m 90 ls [.int t1, .int t0]) := by
  unfold fX11_drought_b90 at hF
  refine lv_imul C.1.1 C.1.2.1 dX11_drought_90 ?_
  refine lv_istore (lv' := [(6, .int ((t0 * t1 : Int32))), (0, .ref (g 0)), (1, .int x1), (2, .int x2), (3, .int x3), (4, .int x4), (5, .int x5), (7, .int x7), (8, .int x8), (9, .int x9)]) C.1.1 C.1.2.1 dX11_drought_91 hl (by decide) rfl (fun ls hl => ?_)
  refine lv_aload_n C.1.1 C.1.2.1 dX11_drought_93 rfl (lv_at hl 1 rfl) ?_
  refine xg_X11_36 C O.1.1 X (k := 0) rfl (j := 51) rfl dX11_drought_94 ?_
  refine lv_aload_n C.1.1 C.1.2.1 dX11_drought_97 rfl (lv_at hl 1 rfl) ?_
  obtain ⟨T1, eT1, hF⟩ := lt_some hF
  have hk_T1 := xtw_k eT1
  refine xg_X11_57 C O.1.1 X (T := T1) eT1 (k := 0) rfl dX11_drought_98 ?_
  refine lv_iload C.1.1 C.1.2.1 dX11_drought_101 (lv_at hl 9 rfl) ?_
  refine lv_if_eq (tgt := 110) C.1.1 C.1.2.1 dX11_drought_103 (by decide) (fun h_z => ?_) (fun h_z => ?_)
  · rw [if_pos h_z] at hF
    exact bX11_drought_110 C O Tb K24 K60 (hk_T1 : xk T1 = 9) X (lv_sub hl [1, 2, 3, 4, 5, 6, 0, 7, 8] rfl) hF
  · rw [if_neg h_z] at hF
    exact bX11_drought_106 C O Tb K24 K60 (hk_T1 : xk T1 = 9) X (lv_sub hl [1, 2, 3, 4, 5, 6, 0, 7, 8] rfl) hF
noncomputable def fX11_drought_b86 (N : Nat) (r24 : Int32 → Int32 → Int32 → Int32 → Int32 → gS → Option (tR)) (r60 : Int32 → Int32 → Int32 → Int32 → Int32 → Int32 → Int32 → Int32 → gS → Option (tR)) (x1 : Int32) (x2 : Int32) (x3 : Int32) (x4 : Int32) (x5 : Int32) (x7 : Int32) (x8 : Int32) (x9 : Int32) (t0 : Int32) (S : gS) : Option (tR) := fX11_drought_b90 N r24 r60 x1 x2 x3 x4 x5 x7 x8 x9 t0 ((10 - x3 : Int32)) S
theorem bX11_drought_86 {N : Nat} {r24 : Int32 → Int32 → Int32 → Int32 → Int32 → gS → Option (tR)} {r60 : Int32 → Int32 → Int32 → Int32 → Int32 → Int32 → Int32 → Int32 → gS → Option (tR)} {x1 : Int32} {x2 : Int32} {x3 : Int32} {x4 : Int32} {x5 : Int32} {x7 : Int32} {x8 : Int32} {x9 : Int32} {t0 : Int32} {S : gS} {H : Heap} {locs : List Loc} {ls : Array Slot} {o : tR} (C : gC p s m args meth c cX11_drought 10 RX11 ((some .int)) D (xtys cI cB cZ cQ) xord g Am) (O : tO l g cI cB cZ cQ Am aK aV) (Tb : ∀ x ∈ c.exceptionTable.toList, False) (K24 : ∀ (x1 : Int32) (x2 : Int32) (x3 : Int32) (x4 : Int32) (x5 : Int32) (S : gS) (H : Heap) (locs : List Loc) (ls : Array Slot), gX D (xcell g cI cB cZ cQ) xord g S s H locs → lv_has ls 10 [(0, .ref (g 0)), (1, .int x1), (2, .int x2), (3, .int x3), (4, .int x4), (5, .int x5)] → r24 x1 x2 x3 x4 x5 S = some o → W p l e (rmx 7 3) s m args below meth c H locs 3 18 (gEX below args s D (xtys cI cB cZ cQ) (xcell g cI cB cZ cQ) xord g 3 false o) (F0 m 24 ls [])) (K60 : ∀ (x1 : Int32) (x2 : Int32) (x3 : Int32) (x4 : Int32) (x5 : Int32) (x6 : Int32) (x7 : Int32) (x8 : Int32) (S : gS) (H : Heap) (locs : List Loc) (ls : Array Slot), gX D (xcell g cI cB cZ cQ) xord g S s H locs → lv_has ls 10 [(0, .ref (g 0)), (1, .int x1), (2, .int x2), (3, .int x3), (4, .int x4), (5, .int x5), (6, .int x6), (7, .int x7), (8, .int x8)] → r60 x1 x2 x3 x4 x5 x6 x7 x8 S = some o → W p l e (rmx 7 3) s m args below meth c H locs 3 18 (gEX below args s D (xtys cI cB cZ cQ) (xcell g cI cB cZ cQ) xord g 3 false o) (F0 m 60 ls [])) (X : gX D (xcell g cI cB cZ cQ) xord g S s H locs) (hl : lv_has ls 10 [(0, .ref (g 0)), (1, .int x1), (2, .int x2), (3, .int x3), (4, .int x4), (5, .int x5), (7, .int x7), (8, .int x8), (9, .int x9)]) (hF : fX11_drought_b86 N r24 r60 x1 x2 x3 x4 x5 x7 x8 x9 t0 S = some o) : W p l e (rmx 7 3) s m args below meth c H locs 3 18 (gEX below args s D (xtys cI cB cZ cQ) (xcell g cI cB cZ cQ) xord g 3 false o) (F0 m 86 ls [.int t0]) := by
  unfold fX11_drought_b86 at hF
  refine lv_bipush (v := 10) C.1.1 C.1.2.1 dX11_drought_86 (by decide) ?_
  refine lv_iload_n C.1.1 C.1.2.1 dX11_drought_88 rfl (lv_at hl 3 rfl) ?_
  refine lv_isub C.1.1 C.1.2.1 dX11_drought_89 ?_
  exact bX11_drought_90 C O Tb K24 K60 X (lv_sub hl [0, 1, 2, 3, 4, 5, 6, 7, 8] rfl) hF
noncomputable def fX11_drought_b82 (N : Nat) (r24 : Int32 → Int32 → Int32 → Int32 → Int32 → gS → Option (tR)) (r60 : Int32 → Int32 → Int32 → Int32 → Int32 → Int32 → Int32 → Int32 → gS → Option (tR)) (x1 : Int32) (x2 : Int32) (x3 : Int32) (x4 : Int32) (x5 : Int32) (x7 : Int32) (x8 : Int32) (x9 : Int32) (t0 : Int32) (S : gS) : Option (tR) := fX11_drought_b90 N r24 r60 x1 x2 x3 x4 x5 x7 x8 x9 t0 x3 S
theorem bX11_drought_82 {N : Nat} {r24 : Int32 → Int32 → Int32 → Int32 → Int32 → gS → Option (tR)} {r60 : Int32 → Int32 → Int32 → Int32 → Int32 → Int32 → Int32 → Int32 → gS → Option (tR)} {x1 : Int32} {x2 : Int32} {x3 : Int32} {x4 : Int32} {x5 : Int32} {x7 : Int32} {x8 : Int32} {x9 : Int32} {t0 : Int32} {S : gS} {H : Heap} {locs : List Loc} {ls : Array Slot} {o : tR} (C : gC p s m args meth c cX11_drought 10 RX11 ((some .int)) D (xtys cI cB cZ cQ) xord g Am) (O : tO l g cI cB cZ cQ Am aK aV) (Tb : ∀ x ∈ c.exceptionTable.toList, False) (K24 : ∀ (x1 : Int32) (x2 : Int32) (x3 : Int32) (x4 : Int32) (x5 : Int32) (S : gS) (H : Heap) (locs : List Loc) (ls : Array Slot), gX D (xcell g cI cB cZ cQ) xord g S s H locs → lv_has ls 10 [(0, .ref (g 0)), (1, .int x1), (2, .int x2), (3, .int x3), (4, .int x4), (5, .int x5)] → r24 x1 x2 x3 x4 x5 S = some o → W p l e (rmx 7 3) s m args below meth c H locs 3 18 (gEX below args s D (xtys cI cB cZ cQ) (xcell g cI cB cZ cQ) xord g 3 false o) (F0 m 24 ls [])) (K60 : ∀ (x1 : Int32) (x2 : Int32) (x3 : Int32) (x4 : Int32) (x5 : Int32) (x6 : Int32) (x7 : Int32) (x8 : Int32) (S : gS) (H : Heap) (locs : List Loc) (ls : Array Slot), gX D (xcell g cI cB cZ cQ) xord g S s H locs → lv_has ls 10 [(0, .ref (g 0)), (1, .int x1), (2, .int x2), (3, .int x3), (4, .int x4), (5, .int x5), (6, .int x6), (7, .int x7), (8, .int x8)] → r60 x1 x2 x3 x4 x5 x6 x7 x8 S = some o → W p l e (rmx 7 3) s m args below meth c H locs 3 18 (gEX below args s D (xtys cI cB cZ cQ) (xcell g cI cB cZ cQ) xord g 3 false o) (F0 m 60 ls [])) (X : gX D (xcell g cI cB cZ cQ) xord g S s H locs) (hl : lv_has ls 10 [(0, .ref (g 0)), (1, .int x1), (2, .int x2), (3, .int x3), (4, .int x4), (5, .int x5), (7, .int x7), (8, .int x8), (9, .int x9)]) (hF : fX11_drought_b82 N r24 r60 x1 x2 x3 x4 x5 x7 x8 x9 t0 S = some o) : W p l e (rmx 7 3) s m args below meth c H locs 3 18 (gEX below args s D (xtys cI cB cZ cQ) (xcell g cI cB cZ cQ) xord g 3 false o) (F0 m 82 ls [.int t0]) := by
  unfold fX11_drought_b82 at hF
  refine lv_iload_n C.1.1 C.1.2.1 dX11_drought_82 rfl (lv_at hl 3 rfl) ?_
  refine lv_goto (tgt := 90) C.1.1 C.1.2.1 dX11_drought_83 (by decide) ?_
  exact bX11_drought_90 C O Tb K24 K60 X (lv_sub hl [0, 1, 2, 3, 4, 5, 6, 7, 8] rfl) hF
noncomputable def fX11_drought_b66 (N : Nat) (r24 : Int32 → Int32 → Int32 → Int32 → Int32 → gS → Option (tR)) (r60 : Int32 → Int32 → Int32 → Int32 → Int32 → Int32 → Int32 → Int32 → gS → Option (tR)) (x1 : Int32) (x2 : Int32) (x3 : Int32) (x4 : Int32) (x5 : Int32) (x6 : Int32) (x7 : Int32) (x8 : Int32) (S : gS) : Option (tR) := bnd (fX11_isOneOf N x5 x8 S) fun q1 => (if q1.1 = 0 then fX11_drought_b86 N r24 r60 x1 x2 x3 x4 x5 x7 x8 q1.1 x6 q1.2 else fX11_drought_b82 N r24 r60 x1 x2 x3 x4 x5 x7 x8 q1.1 x6 q1.2)
theorem bX11_drought_66 {N : Nat} {r24 : Int32 → Int32 → Int32 → Int32 → Int32 → gS → Option (tR)} {r60 : Int32 → Int32 → Int32 → Int32 → Int32 → Int32 → Int32 → Int32 → gS → Option (tR)} {x1 : Int32} {x2 : Int32} {x3 : Int32} {x4 : Int32} {x5 : Int32} {x6 : Int32} {x7 : Int32} {x8 : Int32} {S : gS} {H : Heap} {locs : List Loc} {ls : Array Slot} {o : tR} (C : gC p s m args meth c cX11_drought 10 RX11 ((some .int)) D (xtys cI cB cZ cQ) xord g Am) (O : tO l g cI cB cZ cQ Am aK aV) (Tb : ∀ x ∈ c.exceptionTable.toList, False) (K24 : ∀ (x1 : Int32) (x2 : Int32) (x3 : Int32) (x4 : Int32) (x5 : Int32) (S : gS) (H : Heap) (locs : List Loc) (ls : Array Slot), gX D (xcell g cI cB cZ cQ) xord g S s H locs → lv_has ls 10 [(0, .ref (g 0)), (1, .int x1), (2, .int x2), (3, .int x3), (4, .int x4), (5, .int x5)] → r24 x1 x2 x3 x4 x5 S = some o → W p l e (rmx 7 3) s m args below meth c H locs 3 18 (gEX below args s D (xtys cI cB cZ cQ) (xcell g cI cB cZ cQ) xord g 3 false o) (F0 m 24 ls [])) (K60 : ∀ (x1 : Int32) (x2 : Int32) (x3 : Int32) (x4 : Int32) (x5 : Int32) (x6 : Int32) (x7 : Int32) (x8 : Int32) (S : gS) (H : Heap) (locs : List Loc) (ls : Array Slot), gX D (xcell g cI cB cZ cQ) xord g S s H locs → lv_has ls 10 [(0, .ref (g 0)), (1, .int x1), (2, .int x2), (3, .int x3), (4, .int x4), (5, .int x5), (6, .int x6), (7, .int x7), (8, .int x8)] → r60 x1 x2 x3 x4 x5 x6 x7 x8 S = some o → W p l e (rmx 7 3) s m args below meth c H locs 3 18 (gEX below args s D (xtys cI cB cZ cQ) (xcell g cI cB cZ cQ) xord g 3 false o) (F0 m 60 ls [])) (X : gX D (xcell g cI cB cZ cQ) xord g S s H locs) (hl : lv_has ls 10 [(0, .ref (g 0)), (1, .int x1), (2, .int x2), (3, .int x3), (4, .int x4), (5, .int x5), (6, .int x6), (7, .int x7), (8, .int x8)]) (hF : fX11_drought_b66 N r24 r60 x1 x2 x3 x4 x5 x6 x7 x8 S = some o) : W p l e (rmx 7 3) s m args below meth c H locs 3 18 (gEX below args s D (xtys cI cB cZ cQ) (xcell g cI cB cZ cQ) xord g 3 false o) (F0 m 66 ls []) := by
  unfold fX11_drought_b66 at hF
  refine lv_iload C.1.1 C.1.2.1 dX11_drought_66 (lv_at hl 5 rfl) ?_
  refine lv_iload C.1.1 C.1.2.1 dX11_drought_68 (lv_at hl 8 rfl) ?_
  obtain ⟨q1, hq1, hF⟩ := bnd_some hF
  refine g_callSi C X xv_X11_279 (kX11_isOneOf O.1.1 C.2.2.2.2.1 N x5 x8 S q1 hq1) (Nat.le_of_ble_eq_true rfl) (Nat.le_of_ble_eq_true rfl) (Nat.le_of_ble_eq_true rfl) (Nat.le_of_ble_eq_true rfl) rfl hl.1 rfl (Nat.le_of_ble_eq_true rfl) dX11_drought_70 (fun H locs X => ?_)
  refine lv_istore (lv' := [(9, .int q1.1), (0, .ref (g 0)), (1, .int x1), (2, .int x2), (3, .int x3), (4, .int x4), (5, .int x5), (6, .int x6), (7, .int x7), (8, .int x8)]) C.1.1 C.1.2.1 dX11_drought_73 hl (by decide) rfl (fun ls hl => ?_)
  refine lv_iload C.1.1 C.1.2.1 dX11_drought_75 (lv_at hl 7 rfl) ?_
  refine lv_iload C.1.1 C.1.2.1 dX11_drought_77 (lv_at hl 0 rfl) ?_
  refine lv_if_eq (tgt := 86) C.1.1 C.1.2.1 dX11_drought_79 (by decide) (fun h_z => ?_) (fun h_z => ?_)
  · rw [if_pos h_z] at hF
    exact bX11_drought_86 C O Tb K24 K60 X (lv_sub hl [1, 2, 3, 4, 5, 6, 8, 9, 0] rfl) hF
  · rw [if_neg h_z] at hF
    exact bX11_drought_82 C O Tb K24 K60 X (lv_sub hl [1, 2, 3, 4, 5, 6, 8, 9, 0] rfl) hF
noncomputable def fX11_drought_b60 (N : Nat) (r24 : Int32 → Int32 → Int32 → Int32 → Int32 → gS → Option (tR)) (r60 : Int32 → Int32 → Int32 → Int32 → Int32 → Int32 → Int32 → Int32 → gS → Option (tR)) (x1 : Int32) (x2 : Int32) (x3 : Int32) (x4 : Int32) (x5 : Int32) (x6 : Int32) (x7 : Int32) (x8 : Int32) (S : gS) : Option (tR) := if x2 ≤ x8 then fX11_drought_b127 N r24 x1 x2 x3 x4 x5 x6 x7 S else fX11_drought_b66 N r24 r60 x1 x2 x3 x4 x5 x6 x7 x8 S
theorem bX11_drought_60 {N : Nat} {r24 : Int32 → Int32 → Int32 → Int32 → Int32 → gS → Option (tR)} {r60 : Int32 → Int32 → Int32 → Int32 → Int32 → Int32 → Int32 → Int32 → gS → Option (tR)} {x1 : Int32} {x2 : Int32} {x3 : Int32} {x4 : Int32} {x5 : Int32} {x6 : Int32} {x7 : Int32} {x8 : Int32} {S : gS} {H : Heap} {locs : List Loc} {ls : Array Slot} {o : tR} (C : gC p s m args meth c cX11_drought 10 RX11 ((some .int)) D (xtys cI cB cZ cQ) xord g Am) (O : tO l g cI cB cZ cQ Am aK aV) (Tb : ∀ x ∈ c.exceptionTable.toList, False) (K24 : ∀ (x1 : Int32) (x2 : Int32) (x3 : Int32) (x4 : Int32) (x5 : Int32) (S : gS) (H : Heap) (locs : List Loc) (ls : Array Slot), gX D (xcell g cI cB cZ cQ) xord g S s H locs → lv_has ls 10 [(0, .ref (g 0)), (1, .int x1), (2, .int x2), (3, .int x3), (4, .int x4), (5, .int x5)] → r24 x1 x2 x3 x4 x5 S = some o → W p l e (rmx 7 3) s m args below meth c H locs 3 18 (gEX below args s D (xtys cI cB cZ cQ) (xcell g cI cB cZ cQ) xord g 3 false o) (F0 m 24 ls [])) (K60 : ∀ (x1 : Int32) (x2 : Int32) (x3 : Int32) (x4 : Int32) (x5 : Int32) (x6 : Int32) (x7 : Int32) (x8 : Int32) (S : gS) (H : Heap) (locs : List Loc) (ls : Array Slot), gX D (xcell g cI cB cZ cQ) xord g S s H locs → lv_has ls 10 [(0, .ref (g 0)), (1, .int x1), (2, .int x2), (3, .int x3), (4, .int x4), (5, .int x5), (6, .int x6), (7, .int x7), (8, .int x8)] → r60 x1 x2 x3 x4 x5 x6 x7 x8 S = some o → W p l e (rmx 7 3) s m args below meth c H locs 3 18 (gEX below args s D (xtys cI cB cZ cQ) (xcell g cI cB cZ cQ) xord g 3 false o) (F0 m 60 ls [])) (X : gX D (xcell g cI cB cZ cQ) xord g S s H locs) (hl : lv_has ls 10 [(0, .ref (g 0)), (1, .int x1), (2, .int x2), (3, .int x3), (4, .int x4), (5, .int x5), (6, .int x6), (7, .int x7), (8, .int x8)]) (hF : fX11_drought_b60 N r24 r60 x1 x2 x3 x4 x5 x6 x7 x8 S = some o) : W p l e (rmx 7 3) s m args below meth c H locs 3 18 (gEX below args s D (xtys cI cB cZ cQ) (xcell g cI cB cZ cQ) xord g 3 false o) (F0 m 60 ls []) := by
  unfold fX11_drought_b60 at hF
  refine lv_iload C.1.1 C.1.2.1 dX11_drought_60 (lv_at hl 8 rfl) ?_
  refine lv_iload_n C.1.1 C.1.2.1 dX11_drought_62 rfl (lv_at hl 2 rfl) ?_
  refine lv_icmp_ge (tgt := 127) C.1.1 C.1.2.1 dX11_drought_63 (by decide) (fun h_z => ?_) (fun h_z => ?_)
  · rw [if_pos h_z] at hF
    exact bX11_drought_127 C O Tb K24 X (lv_sub hl [0, 1, 2, 3, 4, 5, 6, 7] rfl) hF
  · rw [if_neg h_z] at hF
    exact bX11_drought_66 C O Tb K24 K60 X (lv_sub hl [0, 1, 2, 3, 4, 5, 6, 7, 8] rfl) hF
noncomputable def fX11_drought_h60 (N : Nat) (r24 : Int32 → Int32 → Int32 → Int32 → Int32 → gS → Option (tR)) : Nat → Int32 → Int32 → Int32 → Int32 → Int32 → Int32 → Int32 → Int32 → gS → Option (tR)
  | 0, _, _, _, _, _, _, _, _, _ => none
  | n + 1, x1, x2, x3, x4, x5, x6, x7, x8, S => fX11_drought_b60 N r24 (fX11_drought_h60 N r24 n) x1 x2 x3 x4 x5 x6 x7 x8 S
theorem hX11_drought_60 {N : Nat} {r24 : Int32 → Int32 → Int32 → Int32 → Int32 → gS → Option (tR)} {o : tR} (C : gC p s m args meth c cX11_drought 10 RX11 ((some .int)) D (xtys cI cB cZ cQ) xord g Am) (O : tO l g cI cB cZ cQ Am aK aV) (Tb : ∀ x ∈ c.exceptionTable.toList, False) (K24 : ∀ (x1 : Int32) (x2 : Int32) (x3 : Int32) (x4 : Int32) (x5 : Int32) (S : gS) (H : Heap) (locs : List Loc) (ls : Array Slot), gX D (xcell g cI cB cZ cQ) xord g S s H locs → lv_has ls 10 [(0, .ref (g 0)), (1, .int x1), (2, .int x2), (3, .int x3), (4, .int x4), (5, .int x5)] → r24 x1 x2 x3 x4 x5 S = some o → W p l e (rmx 7 3) s m args below meth c H locs 3 18 (gEX below args s D (xtys cI cB cZ cQ) (xcell g cI cB cZ cQ) xord g 3 false o) (F0 m 24 ls [])) : ∀ (n : Nat) (x1 : Int32) (x2 : Int32) (x3 : Int32) (x4 : Int32) (x5 : Int32) (x6 : Int32) (x7 : Int32) (x8 : Int32) (S : gS) (H : Heap) (locs : List Loc) (ls : Array Slot), gX D (xcell g cI cB cZ cQ) xord g S s H locs → lv_has ls 10 [(0, .ref (g 0)), (1, .int x1), (2, .int x2), (3, .int x3), (4, .int x4), (5, .int x5), (6, .int x6), (7, .int x7), (8, .int x8)] → fX11_drought_h60 N r24 n x1 x2 x3 x4 x5 x6 x7 x8 S = some o → W p l e (rmx 7 3) s m args below meth c H locs 3 18 (gEX below args s D (xtys cI cB cZ cQ) (xcell g cI cB cZ cQ) xord g 3 false o) (F0 m 60 ls []) := by
  intro n
  induction n with
  | zero =>
    intro x1 x2 x3 x4 x5 x6 x7 x8 S H locs ls X hl hF
    exact absurd (show (none : Option (tR)) = some o from hF) (by simp)
  | succ n ih =>
    intro x1 x2 x3 x4 x5 x6 x7 x8 S H locs ls X hl hF
    have hF : fX11_drought_b60 N r24 (fX11_drought_h60 N r24 n) x1 x2 x3 x4 x5 x6 x7 x8 S = some o := hF
    exact bX11_drought_60 C O Tb K24 ih X hl hF
noncomputable def fX11_drought_b32 (N : Nat) (r24 : Int32 → Int32 → Int32 → Int32 → Int32 → gS → Option (tR)) (x1 : Int32) (x2 : Int32) (x3 : Int32) (x4 : Int32) (x5 : Int32) (S : gS) : Option (tR) := lt (xtw S) fun T1 => (bnd (fX10_begin N T1 21 x1 S) fun q1 => (fX11_drought_h60 N r24 N x1 x2 x3 x4 x5 1 0 0 q1.2))
theorem bX11_drought_32 {N : Nat} {r24 : Int32 → Int32 → Int32 → Int32 → Int32 → gS → Option (tR)} {x1 : Int32} {x2 : Int32} {x3 : Int32} {x4 : Int32} {x5 : Int32} {S : gS} {H : Heap} {locs : List Loc} {ls : Array Slot} {o : tR} (C : gC p s m args meth c cX11_drought 10 RX11 ((some .int)) D (xtys cI cB cZ cQ) xord g Am) (O : tO l g cI cB cZ cQ Am aK aV) (Tb : ∀ x ∈ c.exceptionTable.toList, False) (K24 : ∀ (x1 : Int32) (x2 : Int32) (x3 : Int32) (x4 : Int32) (x5 : Int32) (S : gS) (H : Heap) (locs : List Loc) (ls : Array Slot), gX D (xcell g cI cB cZ cQ) xord g S s H locs → lv_has ls 10 [(0, .ref (g 0)), (1, .int x1), (2, .int x2), (3, .int x3), (4, .int x4), (5, .int x5)] → r24 x1 x2 x3 x4 x5 S = some o → W p l e (rmx 7 3) s m args below meth c H locs 3 18 (gEX below args s D (xtys cI cB cZ cQ) (xcell g cI cB cZ cQ) xord g 3 false o) (F0 m 24 ls [])) (X : gX D (xcell g cI cB cZ cQ) xord g S s H locs) (hl : lv_has ls 10 [(0, .ref (g 0)), (1, .int x1), (2, .int x2), (3, .int x3), (4, .int x4), (5, .int x5)]) (hF : fX11_drought_b32 N r24 x1 x2 x3 x4 x5 S = some o) : W p l e (rmx 7 3) s m args below meth c H locs 3 18 (gEX below args s D (xtys cI cB cZ cQ) (xcell g cI cB cZ cQ) xord g 3 false o) (F0 m 32 ls []) := by
  unfold fX11_drought_b32 at hF
  refine lv_iconst (v := 1) C.1.1 C.1.2.1 dX11_drought_32 (by decide) ?_
  refine lv_istore (lv' := [(6, .int 1), (0, .ref (g 0)), (1, .int x1), (2, .int x2), (3, .int x3), (4, .int x4), (5, .int x5)]) C.1.1 C.1.2.1 dX11_drought_33 hl (by decide) rfl (fun ls hl => ?_)
  refine lv_iconst (v := 0) C.1.1 C.1.2.1 dX11_drought_35 (by decide) ?_
  refine lv_istore (lv' := [(7, .int 0), (6, .int 1), (0, .ref (g 0)), (1, .int x1), (2, .int x2), (3, .int x3), (4, .int x4), (5, .int x5)]) C.1.1 C.1.2.1 dX11_drought_36 hl (by decide) rfl (fun ls hl => ?_)
  refine lv_aload_n C.1.1 C.1.2.1 dX11_drought_38 rfl (lv_at hl 2 rfl) ?_
  refine xg_X11_36 C O.1.1 X (k := 0) rfl (j := 51) rfl dX11_drought_39 ?_
  refine lv_aload_n C.1.1 C.1.2.1 dX11_drought_42 rfl (lv_at hl 2 rfl) ?_
  obtain ⟨T1, eT1, hF⟩ := lt_some hF
  have hk_T1 := xtw_k eT1
  refine xg_X11_57 C O.1.1 X (T := T1) eT1 (k := 0) rfl dX11_drought_43 ?_
  refine lv_aload_n C.1.1 C.1.2.1 dX11_drought_46 rfl (lv_at hl 2 rfl) ?_
  refine xg_X11_19 C O.1.1 X (k := 0) rfl (j := 20) rfl dX11_drought_47 ?_
  refine xg_X11_105 C O.1.1 X (k := 20) rfl (j := 21) rfl dX11_drought_50 ?_
  refine lv_iload_n C.1.1 C.1.2.1 dX11_drought_53 rfl (lv_at hl 3 rfl) ?_
  obtain ⟨q1, hq1, hF⟩ := bnd_some hF
  refine x_callV C X (k := 51) xv_X11_243 (rfl : xk 51 = 10) rfl rfl (by decide) (kX10_begin O.1.1 C.2.2.2.2.1 N T1 21 x1 (hk_T1 : xk T1 = 9) (rfl : xk 21 = 7) S q1 hq1) (Nat.le_of_ble_eq_true rfl) (Nat.le_of_ble_eq_true rfl) (Nat.le_of_ble_eq_true rfl) (Nat.le_of_ble_eq_true rfl) rfl hl.1 rfl (Nat.le_of_ble_eq_true rfl) dX11_drought_54 (fun H locs X => ?_)
  refine lv_iconst (v := 0) C.1.1 C.1.2.1 dX11_drought_57 (by decide) ?_
  refine lv_istore (lv' := [(8, .int 0), (7, .int 0), (6, .int 1), (0, .ref (g 0)), (1, .int x1), (2, .int x2), (3, .int x3), (4, .int x4), (5, .int x5)]) C.1.1 C.1.2.1 dX11_drought_58 hl (by decide) rfl (fun ls hl => ?_)
  exact hX11_drought_60 C O Tb K24 N _ _ _ _ _ _ _ _ _ _ _ _ X (lv_sub hl [3, 4, 5, 6, 7, 8, 2, 1, 0] rfl) hF
noncomputable def fX11_drought_b24 (N : Nat) (r24 : Int32 → Int32 → Int32 → Int32 → Int32 → gS → Option (tR)) (x1 : Int32) (x2 : Int32) (x3 : Int32) (x4 : Int32) (x5 : Int32) (S : gS) : Option (tR) := if (((1 : Int32) <<< (x2 &&& 31) : Int32)) ≤ x5 then fX11_drought_b145 N x4 S else fX11_drought_b32 N r24 x1 x2 x3 x4 x5 S
theorem bX11_drought_24 {N : Nat} {r24 : Int32 → Int32 → Int32 → Int32 → Int32 → gS → Option (tR)} {x1 : Int32} {x2 : Int32} {x3 : Int32} {x4 : Int32} {x5 : Int32} {S : gS} {H : Heap} {locs : List Loc} {ls : Array Slot} {o : tR} (C : gC p s m args meth c cX11_drought 10 RX11 ((some .int)) D (xtys cI cB cZ cQ) xord g Am) (O : tO l g cI cB cZ cQ Am aK aV) (Tb : ∀ x ∈ c.exceptionTable.toList, False) (K24 : ∀ (x1 : Int32) (x2 : Int32) (x3 : Int32) (x4 : Int32) (x5 : Int32) (S : gS) (H : Heap) (locs : List Loc) (ls : Array Slot), gX D (xcell g cI cB cZ cQ) xord g S s H locs → lv_has ls 10 [(0, .ref (g 0)), (1, .int x1), (2, .int x2), (3, .int x3), (4, .int x4), (5, .int x5)] → r24 x1 x2 x3 x4 x5 S = some o → W p l e (rmx 7 3) s m args below meth c H locs 3 18 (gEX below args s D (xtys cI cB cZ cQ) (xcell g cI cB cZ cQ) xord g 3 false o) (F0 m 24 ls [])) (X : gX D (xcell g cI cB cZ cQ) xord g S s H locs) (hl : lv_has ls 10 [(0, .ref (g 0)), (1, .int x1), (2, .int x2), (3, .int x3), (4, .int x4), (5, .int x5)]) (hF : fX11_drought_b24 N r24 x1 x2 x3 x4 x5 S = some o) : W p l e (rmx 7 3) s m args below meth c H locs 3 18 (gEX below args s D (xtys cI cB cZ cQ) (xcell g cI cB cZ cQ) xord g 3 false o) (F0 m 24 ls []) := by
  unfold fX11_drought_b24 at hF
  refine lv_iload C.1.1 C.1.2.1 dX11_drought_24 (lv_at hl 5 rfl) ?_
  refine lv_iconst (v := 1) C.1.1 C.1.2.1 dX11_drought_26 (by decide) ?_
  refine lv_iload_n C.1.1 C.1.2.1 dX11_drought_27 rfl (lv_at hl 2 rfl) ?_
  refine lv_ishl C.1.1 C.1.2.1 dX11_drought_28 ?_
  refine lv_icmp_ge (tgt := 145) C.1.1 C.1.2.1 dX11_drought_29 (by decide) (fun h_z => ?_) (fun h_z => ?_)
  · rw [if_pos h_z] at hF
    exact bX11_drought_145 C O Tb X (lv_sub hl [4] rfl) hF
  · rw [if_neg h_z] at hF
    exact bX11_drought_32 C O Tb K24 X (lv_sub hl [0, 1, 2, 3, 4, 5] rfl) hF
noncomputable def fX11_drought_h24 (N : Nat) : Nat → Int32 → Int32 → Int32 → Int32 → Int32 → gS → Option (tR)
  | 0, _, _, _, _, _, _ => none
  | n + 1, x1, x2, x3, x4, x5, S => fX11_drought_b24 N (fX11_drought_h24 N n) x1 x2 x3 x4 x5 S
theorem hX11_drought_24 {N : Nat} {o : tR} (C : gC p s m args meth c cX11_drought 10 RX11 ((some .int)) D (xtys cI cB cZ cQ) xord g Am) (O : tO l g cI cB cZ cQ Am aK aV) (Tb : ∀ x ∈ c.exceptionTable.toList, False) : ∀ (n : Nat) (x1 : Int32) (x2 : Int32) (x3 : Int32) (x4 : Int32) (x5 : Int32) (S : gS) (H : Heap) (locs : List Loc) (ls : Array Slot), gX D (xcell g cI cB cZ cQ) xord g S s H locs → lv_has ls 10 [(0, .ref (g 0)), (1, .int x1), (2, .int x2), (3, .int x3), (4, .int x4), (5, .int x5)] → fX11_drought_h24 N n x1 x2 x3 x4 x5 S = some o → W p l e (rmx 7 3) s m args below meth c H locs 3 18 (gEX below args s D (xtys cI cB cZ cQ) (xcell g cI cB cZ cQ) xord g 3 false o) (F0 m 24 ls []) := by
  intro n
  induction n with
  | zero =>
    intro x1 x2 x3 x4 x5 S H locs ls X hl hF
    exact absurd (show (none : Option (tR)) = some o from hF) (by simp)
  | succ n ih =>
    intro x1 x2 x3 x4 x5 S H locs ls X hl hF
    have hF : fX11_drought_b24 N (fX11_drought_h24 N n) x1 x2 x3 x4 x5 S = some o := hF
    exact bX11_drought_24 C O Tb ih X hl hF
noncomputable def fX11_drought_b0 (N : Nat) (x1 : Int32) (x2 : Int32) (x3 : Int32) (S : gS) : Option (tR) := bnx (fX11_needGuild N x1 S) fun q1 => (bnx (fX11_needWithin N x2 1 5 q1.2.2) fun q2 => (bnx (fX11_needWithin N x3 0 10 q2.2.2) fun q3 => (fX11_drought_h24 N N x1 x2 x3 0 0 q3.2.2)))
theorem bX11_drought_0 {N : Nat} {x1 : Int32} {x2 : Int32} {x3 : Int32} {S : gS} {H : Heap} {locs : List Loc} {ls : Array Slot} {o : tR} (C : gC p s m args meth c cX11_drought 10 RX11 ((some .int)) D (xtys cI cB cZ cQ) xord g Am) (O : tO l g cI cB cZ cQ Am aK aV) (Tb : ∀ x ∈ c.exceptionTable.toList, False) (X : gX D (xcell g cI cB cZ cQ) xord g S s H locs) (hl : lv_has ls 10 [(0, .ref (g 0)), (1, .int x1), (2, .int x2), (3, .int x3)]) (hF : fX11_drought_b0 N x1 x2 x3 S = some o) : W p l e (rmx 7 3) s m args below meth c H locs 0 0 (gEX below args s D (xtys cI cB cZ cQ) (xcell g cI cB cZ cQ) xord g 3 false o) (F0 m 0 ls []) := by
  unfold fX11_drought_b0 at hF
  refine lv_aload_n C.1.1 C.1.2.1 dX11_drought_0 rfl (lv_at hl 0 rfl) ?_
  refine lv_iload_n C.1.1 C.1.2.1 dX11_drought_1 rfl (lv_at hl 1 rfl) ?_
  rcases (bnx_some hF).symm with ⟨q1, hq1, zq1, eo⟩ | ⟨q1, hq1, zq1, hF⟩
  · subst eo
    exact t_thr (x_preT C X xv_X11_191 rfl (kX11_needGuild O C.2.2.2.2.1 N x1 S q1 hq1) (Nat.le_of_ble_eq_true rfl) (Nat.le_of_ble_eq_true rfl) (Nat.le_of_ble_eq_true rfl) (Nat.le_of_ble_eq_true rfl) rfl hl.1 rfl (Nat.le_of_ble_eq_true rfl) dX11_drought_2) zq1 C Tb X (by decide) (by decide)
  refine t_okv (x_preT C X xv_X11_191 rfl (kX11_needGuild O C.2.2.2.2.1 N x1 S q1 hq1) (Nat.le_of_ble_eq_true rfl) (Nat.le_of_ble_eq_true rfl) (Nat.le_of_ble_eq_true rfl) (Nat.le_of_ble_eq_true rfl) rfl hl.1 rfl (Nat.le_of_ble_eq_true rfl) dX11_drought_2) zq1 X (fun H locs X => ?_)
  refine W.widen (k := 1) (n := 6) (by decide) (by decide) ?_
  refine lv_iload_n C.1.1 C.1.2.1 dX11_drought_5 rfl (lv_at hl 2 rfl) ?_
  refine lv_iconst (v := 1) C.1.1 C.1.2.1 dX11_drought_6 (by decide) ?_
  refine lv_iconst (v := 5) C.1.1 C.1.2.1 dX11_drought_7 (by decide) ?_
  rcases (bnx_some hF).symm with ⟨q2, hq2, zq2, eo⟩ | ⟨q2, hq2, zq2, hF⟩
  · subst eo
    exact t_thr (t_preS C X xv_X11_239 (kX11_needWithin O C.2.2.2.2.1 N x2 1 5 q1.2.2 q2 hq2) (Nat.le_of_ble_eq_true rfl) (Nat.le_of_ble_eq_true rfl) (Nat.le_of_ble_eq_true rfl) (Nat.le_of_ble_eq_true rfl) rfl hl.1 rfl (Nat.le_of_ble_eq_true rfl) dX11_drought_8) zq2 C Tb X (by decide) (by decide)
  refine t_okv (t_preS C X xv_X11_239 (kX11_needWithin O C.2.2.2.2.1 N x2 1 5 q1.2.2 q2 hq2) (Nat.le_of_ble_eq_true rfl) (Nat.le_of_ble_eq_true rfl) (Nat.le_of_ble_eq_true rfl) (Nat.le_of_ble_eq_true rfl) rfl hl.1 rfl (Nat.le_of_ble_eq_true rfl) dX11_drought_8) zq2 X (fun H locs X => ?_)
  refine W.widen (k := 2) (n := 12) (by decide) (by decide) ?_
  refine lv_iload_n C.1.1 C.1.2.1 dX11_drought_11 rfl (lv_at hl 3 rfl) ?_
  refine lv_iconst (v := 0) C.1.1 C.1.2.1 dX11_drought_12 (by decide) ?_
  refine lv_bipush (v := 10) C.1.1 C.1.2.1 dX11_drought_13 (by decide) ?_
  rcases (bnx_some hF).symm with ⟨q3, hq3, zq3, eo⟩ | ⟨q3, hq3, zq3, hF⟩
  · subst eo
    exact t_thr (t_preS C X xv_X11_239 (kX11_needWithin O C.2.2.2.2.1 N x3 0 10 q2.2.2 q3 hq3) (Nat.le_of_ble_eq_true rfl) (Nat.le_of_ble_eq_true rfl) (Nat.le_of_ble_eq_true rfl) (Nat.le_of_ble_eq_true rfl) rfl hl.1 rfl (Nat.le_of_ble_eq_true rfl) dX11_drought_15) zq3 C Tb X (by decide) (by decide)
  refine t_okv (t_preS C X xv_X11_239 (kX11_needWithin O C.2.2.2.2.1 N x3 0 10 q2.2.2 q3 hq3) (Nat.le_of_ble_eq_true rfl) (Nat.le_of_ble_eq_true rfl) (Nat.le_of_ble_eq_true rfl) (Nat.le_of_ble_eq_true rfl) rfl hl.1 rfl (Nat.le_of_ble_eq_true rfl) dX11_drought_15) zq3 X (fun H locs X => ?_)
  refine W.widen (k := 3) (n := 18) (by decide) (by decide) ?_
  refine lv_iconst (v := 0) C.1.1 C.1.2.1 dX11_drought_18 (by decide) ?_
  refine lv_istore (lv' := [(4, .int 0), (0, .ref (g 0)), (1, .int x1), (2, .int x2), (3, .int x3)]) C.1.1 C.1.2.1 dX11_drought_19 hl (by decide) rfl (fun ls hl => ?_)
  refine lv_iconst (v := 0) C.1.1 C.1.2.1 dX11_drought_21 (by decide) ?_
  refine lv_istore (lv' := [(5, .int 0), (4, .int 0), (0, .ref (g 0)), (1, .int x1), (2, .int x2), (3, .int x3)]) C.1.1 C.1.2.1 dX11_drought_22 hl (by decide) rfl (fun ls hl => ?_)
  exact hX11_drought_24 C O Tb N _ _ _ _ _ _ _ _ _ X (lv_sub hl [2, 3, 4, 5, 1, 0] rfl) hF
noncomputable def fX11_drought (N : Nat) (x1 : Int32) (x2 : Int32) (x3 : Int32) (S : gS) : Option (tR) := fX11_drought_b0 N x1 x2 x3 S
theorem kX11_drought {l : Launch} {D : va_G} {g : Nat → Nat} {cI cB cZ cQ : ClassId} {Am : (Nat → Prop) → State → Heap → Prop} {aK aV : Nat → Nat} (O : tO l g cI cB cZ cQ Am aK aV) (P : gAm Am) (N : Nat) (x1 : Int32) (x2 : Int32) (x3 : Int32) (S : gS) (o : tR) (hF : fX11_drought N x1 x2 x3 S = some o) : gN l yX11_drought cX11_drought 10 ((some .int)) 7 3 D (xtys cI cB cZ cQ) (xcell g cI cB cZ cQ) xord g Am [.ref (g 0), .int x1, .int x2, .int x3] S false o :=
  gN_of P (by decide) (Nat.le_of_ble_eq_true rfl) (fun p e s m args below meth c ls C Tb X hl => bX11_drought_0 C O Tb X (lv_sub hl [0, 1, 2, 3] rfl) hF)
-- X11.game
noncomputable def fX11_game_b136 (N : Nat) (t0 : Int32) (S : gS) : Option (tR) := some (0, t0, S)
theorem bX11_game_136 {N : Nat} {t0 : Int32} {S : gS} {H : Heap} {locs : List Loc} {ls : Array Slot} {o : tR} (C : gC p s m args meth c cX11_game 8 RX11 ((some .int)) D (xtys cI cB cZ cQ) xord g Am) (O : tO l g cI cB cZ cQ Am aK aV) (Tb : ∀ x ∈ c.exceptionTable.toList, False) (X : gX D (xcell g cI cB cZ cQ) xord g S s H locs) (hl : lv_has ls 8 []) (hF : fX11_game_b136 N t0 S = some o) : W p l e (rmx 7 4) s m args below meth c H locs 3 18 (gEX below args s D (xtys cI cB cZ cQ) (xcell g cI cB cZ cQ) xord g 4 false o) (F0 m 136 ls [.int t0]) := by
  unfold fX11_game_b136 at hF
  cases hF
  exact t_iret C X (by decide) (by decide) dX11_game_136
noncomputable def fX11_game_b134 (N : Nat) (x5 : Int32) (S : gS) : Option (tR) := fX11_game_b136 N x5 S
theorem bX11_game_134 {N : Nat} {x5 : Int32} {S : gS} {H : Heap} {locs : List Loc} {ls : Array Slot} {o : tR} (C : gC p s m args meth c cX11_game 8 RX11 ((some .int)) D (xtys cI cB cZ cQ) xord g Am) (O : tO l g cI cB cZ cQ Am aK aV) (Tb : ∀ x ∈ c.exceptionTable.toList, False) (X : gX D (xcell g cI cB cZ cQ) xord g S s H locs) (hl : lv_has ls 8 [(5, .int x5)]) (hF : fX11_game_b134 N x5 S = some o) : W p l e (rmx 7 4) s m args below meth c H locs 3 18 (gEX below args s D (xtys cI cB cZ cQ) (xcell g cI cB cZ cQ) xord g 4 false o) (F0 m 134 ls []) := by
  unfold fX11_game_b134 at hF
  refine lv_iload C.1.1 C.1.2.1 dX11_game_134 (lv_at hl 0 rfl) ?_
  exact bX11_game_136 C O Tb X (lv_sub hl [] rfl) hF
noncomputable def fX11_game_b129 (N : Nat) (x4 : Int32) (S : gS) : Option (tR) := fX11_game_b136 N x4 S
theorem bX11_game_129 {N : Nat} {x4 : Int32} {S : gS} {H : Heap} {locs : List Loc} {ls : Array Slot} {o : tR} (C : gC p s m args meth c cX11_game 8 RX11 ((some .int)) D (xtys cI cB cZ cQ) xord g Am) (O : tO l g cI cB cZ cQ Am aK aV) (Tb : ∀ x ∈ c.exceptionTable.toList, False) (X : gX D (xcell g cI cB cZ cQ) xord g S s H locs) (hl : lv_has ls 8 [(4, .int x4)]) (hF : fX11_game_b129 N x4 S = some o) : W p l e (rmx 7 4) s m args below meth c H locs 3 18 (gEX below args s D (xtys cI cB cZ cQ) (xcell g cI cB cZ cQ) xord g 4 false o) (F0 m 129 ls []) := by
  unfold fX11_game_b129 at hF
  refine lv_iload C.1.1 C.1.2.1 dX11_game_129 (lv_at hl 0 rfl) ?_
  refine lv_goto (tgt := 136) C.1.1 C.1.2.1 dX11_game_131 (by decide) ?_
  exact bX11_game_136 C O Tb X (lv_sub hl [] rfl) hF
noncomputable def fX11_game_b125 (N : Nat) (x3 : Int32) (x4 : Int32) (x5 : Int32) (S : gS) : Option (tR) := if x3 = 0 then fX11_game_b129 N x4 S else fX11_game_b134 N x5 S
theorem bX11_game_125 {N : Nat} {x3 : Int32} {x4 : Int32} {x5 : Int32} {S : gS} {H : Heap} {locs : List Loc} {ls : Array Slot} {o : tR} (C : gC p s m args meth c cX11_game 8 RX11 ((some .int)) D (xtys cI cB cZ cQ) xord g Am) (O : tO l g cI cB cZ cQ Am aK aV) (Tb : ∀ x ∈ c.exceptionTable.toList, False) (X : gX D (xcell g cI cB cZ cQ) xord g S s H locs) (hl : lv_has ls 8 [(3, .int x3), (4, .int x4), (5, .int x5)]) (hF : fX11_game_b125 N x3 x4 x5 S = some o) : W p l e (rmx 7 4) s m args below meth c H locs 3 18 (gEX below args s D (xtys cI cB cZ cQ) (xcell g cI cB cZ cQ) xord g 4 false o) (F0 m 125 ls []) := by
  unfold fX11_game_b125 at hF
  refine lv_iload_n C.1.1 C.1.2.1 dX11_game_125 rfl (lv_at hl 0 rfl) ?_
  refine lv_if_ne (tgt := 134) C.1.1 C.1.2.1 dX11_game_126 (by decide) (fun h_z => ?_) (fun h_z => ?_)
  · rw [if_neg h_z] at hF
    exact bX11_game_134 C O Tb X (lv_sub hl [2] rfl) hF
  · rw [if_pos h_z] at hF
    exact bX11_game_129 C O Tb X (lv_sub hl [1] rfl) hF
noncomputable def fX11_game_b119 (N : Nat) (r40 : Int32 → Int32 → Int32 → Int32 → Int32 → Int32 → gS → Option (tR)) (x1 : Int32) (x2 : Int32) (x3 : Int32) (x4 : Int32) (x5 : Int32) (x6 : Int32) (S : gS) : Option (tR) := r40 x1 x2 x3 x4 x5 ((x6 + 1 : Int32)) S
theorem bX11_game_119 {N : Nat} {r40 : Int32 → Int32 → Int32 → Int32 → Int32 → Int32 → gS → Option (tR)} {x1 : Int32} {x2 : Int32} {x3 : Int32} {x4 : Int32} {x5 : Int32} {x6 : Int32} {S : gS} {H : Heap} {locs : List Loc} {ls : Array Slot} {o : tR} (C : gC p s m args meth c cX11_game 8 RX11 ((some .int)) D (xtys cI cB cZ cQ) xord g Am) (O : tO l g cI cB cZ cQ Am aK aV) (Tb : ∀ x ∈ c.exceptionTable.toList, False) (K40 : ∀ (x1 : Int32) (x2 : Int32) (x3 : Int32) (x4 : Int32) (x5 : Int32) (x6 : Int32) (S : gS) (H : Heap) (locs : List Loc) (ls : Array Slot), gX D (xcell g cI cB cZ cQ) xord g S s H locs → lv_has ls 8 [(0, .ref (g 0)), (1, .int x1), (2, .int x2), (3, .int x3), (4, .int x4), (5, .int x5), (6, .int x6)] → r40 x1 x2 x3 x4 x5 x6 S = some o → W p l e (rmx 7 4) s m args below meth c H locs 3 18 (gEX below args s D (xtys cI cB cZ cQ) (xcell g cI cB cZ cQ) xord g 4 false o) (F0 m 40 ls [])) (X : gX D (xcell g cI cB cZ cQ) xord g S s H locs) (hl : lv_has ls 8 [(0, .ref (g 0)), (1, .int x1), (2, .int x2), (3, .int x3), (4, .int x4), (5, .int x5), (6, .int x6)]) (hF : fX11_game_b119 N r40 x1 x2 x3 x4 x5 x6 S = some o) : W p l e (rmx 7 4) s m args below meth c H locs 3 18 (gEX below args s D (xtys cI cB cZ cQ) (xcell g cI cB cZ cQ) xord g 4 false o) (F0 m 119 ls []) := by
  unfold fX11_game_b119 at hF
  refine lv_iinc (v := (x6 + 1 : Int32)) (lv' := [(6, .int ((x6 + 1 : Int32))), (0, .ref (g 0)), (1, .int x1), (2, .int x2), (3, .int x3), (4, .int x4), (5, .int x5)]) C.1.1 C.1.2.1 dX11_game_119 hl (k := 6) rfl rfl (by decide) rfl (fun ls hl => ?_)
  refine lv_goto (tgt := 40) C.1.1 C.1.2.1 dX11_game_122 (by decide) ?_
  exact K40 _ _ _ _ _ _ _ _ _ _ X (lv_sub hl [1, 2, 3, 4, 5, 6, 0] rfl) hF
noncomputable def fX11_game_b113 (N : Nat) (r40 : Int32 → Int32 → Int32 → Int32 → Int32 → Int32 → gS → Option (tR)) (r53 : Int32 → Int32 → Int32 → Int32 → Int32 → Int32 → Int32 → gS → Option (tR)) (x1 : Int32) (x2 : Int32) (x3 : Int32) (x4 : Int32) (x5 : Int32) (x6 : Int32) (x7 : Int32) (S : gS) : Option (tR) := r53 x1 x2 x3 x4 x5 x6 ((x7 + 1 : Int32)) S
theorem bX11_game_113 {N : Nat} {r40 : Int32 → Int32 → Int32 → Int32 → Int32 → Int32 → gS → Option (tR)} {r53 : Int32 → Int32 → Int32 → Int32 → Int32 → Int32 → Int32 → gS → Option (tR)} {x1 : Int32} {x2 : Int32} {x3 : Int32} {x4 : Int32} {x5 : Int32} {x6 : Int32} {x7 : Int32} {S : gS} {H : Heap} {locs : List Loc} {ls : Array Slot} {o : tR} (C : gC p s m args meth c cX11_game 8 RX11 ((some .int)) D (xtys cI cB cZ cQ) xord g Am) (O : tO l g cI cB cZ cQ Am aK aV) (Tb : ∀ x ∈ c.exceptionTable.toList, False) (K40 : ∀ (x1 : Int32) (x2 : Int32) (x3 : Int32) (x4 : Int32) (x5 : Int32) (x6 : Int32) (S : gS) (H : Heap) (locs : List Loc) (ls : Array Slot), gX D (xcell g cI cB cZ cQ) xord g S s H locs → lv_has ls 8 [(0, .ref (g 0)), (1, .int x1), (2, .int x2), (3, .int x3), (4, .int x4), (5, .int x5), (6, .int x6)] → r40 x1 x2 x3 x4 x5 x6 S = some o → W p l e (rmx 7 4) s m args below meth c H locs 3 18 (gEX below args s D (xtys cI cB cZ cQ) (xcell g cI cB cZ cQ) xord g 4 false o) (F0 m 40 ls [])) (K53 : ∀ (x1 : Int32) (x2 : Int32) (x3 : Int32) (x4 : Int32) (x5 : Int32) (x6 : Int32) (x7 : Int32) (S : gS) (H : Heap) (locs : List Loc) (ls : Array Slot), gX D (xcell g cI cB cZ cQ) xord g S s H locs → lv_has ls 8 [(0, .ref (g 0)), (1, .int x1), (2, .int x2), (3, .int x3), (4, .int x4), (5, .int x5), (6, .int x6), (7, .int x7)] → r53 x1 x2 x3 x4 x5 x6 x7 S = some o → W p l e (rmx 7 4) s m args below meth c H locs 3 18 (gEX below args s D (xtys cI cB cZ cQ) (xcell g cI cB cZ cQ) xord g 4 false o) (F0 m 53 ls [])) (X : gX D (xcell g cI cB cZ cQ) xord g S s H locs) (hl : lv_has ls 8 [(0, .ref (g 0)), (1, .int x1), (2, .int x2), (3, .int x3), (4, .int x4), (5, .int x5), (6, .int x6), (7, .int x7)]) (hF : fX11_game_b113 N r40 r53 x1 x2 x3 x4 x5 x6 x7 S = some o) : W p l e (rmx 7 4) s m args below meth c H locs 3 18 (gEX below args s D (xtys cI cB cZ cQ) (xcell g cI cB cZ cQ) xord g 4 false o) (F0 m 113 ls []) := by
  unfold fX11_game_b113 at hF
  refine lv_iinc (v := (x7 + 1 : Int32)) (lv' := [(7, .int ((x7 + 1 : Int32))), (0, .ref (g 0)), (1, .int x1), (2, .int x2), (3, .int x3), (4, .int x4), (5, .int x5), (6, .int x6)]) C.1.1 C.1.2.1 dX11_game_113 hl (k := 7) rfl rfl (by decide) rfl (fun ls hl => ?_)
  refine lv_goto (tgt := 53) C.1.1 C.1.2.1 dX11_game_116 (by decide) ?_
  exact K53 _ _ _ _ _ _ _ _ _ _ _ X (lv_sub hl [1, 2, 3, 4, 5, 6, 7, 0] rfl) hF
noncomputable def fX11_game_b111 (N : Nat) (r40 : Int32 → Int32 → Int32 → Int32 → Int32 → Int32 → gS → Option (tR)) (r53 : Int32 → Int32 → Int32 → Int32 → Int32 → Int32 → Int32 → gS → Option (tR)) (x1 : Int32) (x2 : Int32) (x3 : Int32) (x4 : Int32) (x6 : Int32) (x7 : Int32) (t0 : Int32) (S : gS) : Option (tR) := fX11_game_b113 N r40 r53 x1 x2 x3 x4 t0 x6 x7 S
theorem bX11_game_111 {N : Nat} {r40 : Int32 → Int32 → Int32 → Int32 → Int32 → Int32 → gS → Option (tR)} {r53 : Int32 → Int32 → Int32 → Int32 → Int32 → Int32 → Int32 → gS → Option (tR)} {x1 : Int32} {x2 : Int32} {x3 : Int32} {x4 : Int32} {x6 : Int32} {x7 : Int32} {t0 : Int32} {S : gS} {H : Heap} {locs : List Loc} {ls : Array Slot} {o : tR} (C : gC p s m args meth c cX11_game 8 RX11 ((some .int)) D (xtys cI cB cZ cQ) xord g Am) (O : tO l g cI cB cZ cQ Am aK aV) (Tb : ∀ x ∈ c.exceptionTable.toList, False) (K40 : ∀ (x1 : Int32) (x2 : Int32) (x3 : Int32) (x4 : Int32) (x5 : Int32) (x6 : Int32) (S : gS) (H : Heap) (locs : List Loc) (ls : Array Slot), gX D (xcell g cI cB cZ cQ) xord g S s H locs → lv_has ls 8 [(0, .ref (g 0)), (1, .int x1), (2, .int x2), (3, .int x3), (4, .int x4), (5, .int x5), (6, .int x6)] → r40 x1 x2 x3 x4 x5 x6 S = some o → W p l e (rmx 7 4) s m args below meth c H locs 3 18 (gEX below args s D (xtys cI cB cZ cQ) (xcell g cI cB cZ cQ) xord g 4 false o) (F0 m 40 ls [])) (K53 : ∀ (x1 : Int32) (x2 : Int32) (x3 : Int32) (x4 : Int32) (x5 : Int32) (x6 : Int32) (x7 : Int32) (S : gS) (H : Heap) (locs : List Loc) (ls : Array Slot), gX D (xcell g cI cB cZ cQ) xord g S s H locs → lv_has ls 8 [(0, .ref (g 0)), (1, .int x1), (2, .int x2), (3, .int x3), (4, .int x4), (5, .int x5), (6, .int x6), (7, .int x7)] → r53 x1 x2 x3 x4 x5 x6 x7 S = some o → W p l e (rmx 7 4) s m args below meth c H locs 3 18 (gEX below args s D (xtys cI cB cZ cQ) (xcell g cI cB cZ cQ) xord g 4 false o) (F0 m 53 ls [])) (X : gX D (xcell g cI cB cZ cQ) xord g S s H locs) (hl : lv_has ls 8 [(0, .ref (g 0)), (1, .int x1), (2, .int x2), (3, .int x3), (4, .int x4), (6, .int x6), (7, .int x7)]) (hF : fX11_game_b111 N r40 r53 x1 x2 x3 x4 x6 x7 t0 S = some o) : W p l e (rmx 7 4) s m args below meth c H locs 3 18 (gEX below args s D (xtys cI cB cZ cQ) (xcell g cI cB cZ cQ) xord g 4 false o) (F0 m 111 ls [.int t0]) := by
  unfold fX11_game_b111 at hF
  refine lv_istore (lv' := [(5, .int t0), (0, .ref (g 0)), (1, .int x1), (2, .int x2), (3, .int x3), (4, .int x4), (6, .int x6), (7, .int x7)]) C.1.1 C.1.2.1 dX11_game_111 hl (by decide) rfl (fun ls hl => ?_)
  exact bX11_game_113 C O Tb K40 K53 X (lv_sub hl [1, 2, 3, 4, 5, 0, 6, 7] rfl) hF
noncomputable def fX11_game_b109 (N : Nat) (r40 : Int32 → Int32 → Int32 → Int32 → Int32 → Int32 → gS → Option (tR)) (r53 : Int32 → Int32 → Int32 → Int32 → Int32 → Int32 → Int32 → gS → Option (tR)) (x1 : Int32) (x2 : Int32) (x3 : Int32) (x4 : Int32) (x5 : Int32) (x6 : Int32) (x7 : Int32) (S : gS) : Option (tR) := fX11_game_b111 N r40 r53 x1 x2 x3 x4 x6 x7 x5 S
theorem bX11_game_109 {N : Nat} {r40 : Int32 → Int32 → Int32 → Int32 → Int32 → Int32 → gS → Option (tR)} {r53 : Int32 → Int32 → Int32 → Int32 → Int32 → Int32 → Int32 → gS → Option (tR)} {x1 : Int32} {x2 : Int32} {x3 : Int32} {x4 : Int32} {x5 : Int32} {x6 : Int32} {x7 : Int32} {S : gS} {H : Heap} {locs : List Loc} {ls : Array Slot} {o : tR} (C : gC p s m args meth c cX11_game 8 RX11 ((some .int)) D (xtys cI cB cZ cQ) xord g Am) (O : tO l g cI cB cZ cQ Am aK aV) (Tb : ∀ x ∈ c.exceptionTable.toList, False) (K40 : ∀ (x1 : Int32) (x2 : Int32) (x3 : Int32) (x4 : Int32) (x5 : Int32) (x6 : Int32) (S : gS) (H : Heap) (locs : List Loc) (ls : Array Slot), gX D (xcell g cI cB cZ cQ) xord g S s H locs → lv_has ls 8 [(0, .ref (g 0)), (1, .int x1), (2, .int x2), (3, .int x3), (4, .int x4), (5, .int x5), (6, .int x6)] → r40 x1 x2 x3 x4 x5 x6 S = some o → W p l e (rmx 7 4) s m args below meth c H locs 3 18 (gEX below args s D (xtys cI cB cZ cQ) (xcell g cI cB cZ cQ) xord g 4 false o) (F0 m 40 ls [])) (K53 : ∀ (x1 : Int32) (x2 : Int32) (x3 : Int32) (x4 : Int32) (x5 : Int32) (x6 : Int32) (x7 : Int32) (S : gS) (H : Heap) (locs : List Loc) (ls : Array Slot), gX D (xcell g cI cB cZ cQ) xord g S s H locs → lv_has ls 8 [(0, .ref (g 0)), (1, .int x1), (2, .int x2), (3, .int x3), (4, .int x4), (5, .int x5), (6, .int x6), (7, .int x7)] → r53 x1 x2 x3 x4 x5 x6 x7 S = some o → W p l e (rmx 7 4) s m args below meth c H locs 3 18 (gEX below args s D (xtys cI cB cZ cQ) (xcell g cI cB cZ cQ) xord g 4 false o) (F0 m 53 ls [])) (X : gX D (xcell g cI cB cZ cQ) xord g S s H locs) (hl : lv_has ls 8 [(0, .ref (g 0)), (1, .int x1), (2, .int x2), (3, .int x3), (4, .int x4), (5, .int x5), (6, .int x6), (7, .int x7)]) (hF : fX11_game_b109 N r40 r53 x1 x2 x3 x4 x5 x6 x7 S = some o) : W p l e (rmx 7 4) s m args below meth c H locs 3 18 (gEX below args s D (xtys cI cB cZ cQ) (xcell g cI cB cZ cQ) xord g 4 false o) (F0 m 109 ls []) := by
  unfold fX11_game_b109 at hF
  refine lv_iload C.1.1 C.1.2.1 dX11_game_109 (lv_at hl 5 rfl) ?_
  exact bX11_game_111 C O Tb K40 K53 X (lv_sub hl [0, 1, 2, 3, 4, 6, 7] rfl) hF
noncomputable def fX11_game_b98 (N : Nat) (r40 : Int32 → Int32 → Int32 → Int32 → Int32 → Int32 → gS → Option (tR)) (r53 : Int32 → Int32 → Int32 → Int32 → Int32 → Int32 → Int32 → gS → Option (tR)) (x1 : Int32) (x2 : Int32) (x3 : Int32) (x4 : Int32) (x6 : Int32) (x7 : Int32) (S : gS) : Option (tR) := fX11_game_b111 N r40 r53 x1 x2 x3 x4 x6 x7 ((((10 * x6 : Int32)) + x7 : Int32)) S
theorem bX11_game_98 {N : Nat} {r40 : Int32 → Int32 → Int32 → Int32 → Int32 → Int32 → gS → Option (tR)} {r53 : Int32 → Int32 → Int32 → Int32 → Int32 → Int32 → Int32 → gS → Option (tR)} {x1 : Int32} {x2 : Int32} {x3 : Int32} {x4 : Int32} {x6 : Int32} {x7 : Int32} {S : gS} {H : Heap} {locs : List Loc} {ls : Array Slot} {o : tR} (C : gC p s m args meth c cX11_game 8 RX11 ((some .int)) D (xtys cI cB cZ cQ) xord g Am) (O : tO l g cI cB cZ cQ Am aK aV) (Tb : ∀ x ∈ c.exceptionTable.toList, False) (K40 : ∀ (x1 : Int32) (x2 : Int32) (x3 : Int32) (x4 : Int32) (x5 : Int32) (x6 : Int32) (S : gS) (H : Heap) (locs : List Loc) (ls : Array Slot), gX D (xcell g cI cB cZ cQ) xord g S s H locs → lv_has ls 8 [(0, .ref (g 0)), (1, .int x1), (2, .int x2), (3, .int x3), (4, .int x4), (5, .int x5), (6, .int x6)] → r40 x1 x2 x3 x4 x5 x6 S = some o → W p l e (rmx 7 4) s m args below meth c H locs 3 18 (gEX below args s D (xtys cI cB cZ cQ) (xcell g cI cB cZ cQ) xord g 4 false o) (F0 m 40 ls [])) (K53 : ∀ (x1 : Int32) (x2 : Int32) (x3 : Int32) (x4 : Int32) (x5 : Int32) (x6 : Int32) (x7 : Int32) (S : gS) (H : Heap) (locs : List Loc) (ls : Array Slot), gX D (xcell g cI cB cZ cQ) xord g S s H locs → lv_has ls 8 [(0, .ref (g 0)), (1, .int x1), (2, .int x2), (3, .int x3), (4, .int x4), (5, .int x5), (6, .int x6), (7, .int x7)] → r53 x1 x2 x3 x4 x5 x6 x7 S = some o → W p l e (rmx 7 4) s m args below meth c H locs 3 18 (gEX below args s D (xtys cI cB cZ cQ) (xcell g cI cB cZ cQ) xord g 4 false o) (F0 m 53 ls [])) (X : gX D (xcell g cI cB cZ cQ) xord g S s H locs) (hl : lv_has ls 8 [(0, .ref (g 0)), (1, .int x1), (2, .int x2), (3, .int x3), (4, .int x4), (6, .int x6), (7, .int x7)]) (hF : fX11_game_b98 N r40 r53 x1 x2 x3 x4 x6 x7 S = some o) : W p l e (rmx 7 4) s m args below meth c H locs 3 18 (gEX below args s D (xtys cI cB cZ cQ) (xcell g cI cB cZ cQ) xord g 4 false o) (F0 m 98 ls []) := by
  unfold fX11_game_b98 at hF
  refine lv_bipush (v := 10) C.1.1 C.1.2.1 dX11_game_98 (by decide) ?_
  refine lv_iload C.1.1 C.1.2.1 dX11_game_100 (lv_at hl 5 rfl) ?_
  refine lv_imul C.1.1 C.1.2.1 dX11_game_102 ?_
  refine lv_iload C.1.1 C.1.2.1 dX11_game_103 (lv_at hl 6 rfl) ?_
  refine lv_iadd C.1.1 C.1.2.1 dX11_game_105 ?_
  refine lv_goto (tgt := 111) C.1.1 C.1.2.1 dX11_game_106 (by decide) ?_
  exact bX11_game_111 C O Tb K40 K53 X (lv_sub hl [0, 1, 2, 3, 4, 5, 6] rfl) hF
noncomputable def fX11_game_b89 (N : Nat) (r40 : Int32 → Int32 → Int32 → Int32 → Int32 → Int32 → gS → Option (tR)) (r53 : Int32 → Int32 → Int32 → Int32 → Int32 → Int32 → Int32 → gS → Option (tR)) (x1 : Int32) (x2 : Int32) (x3 : Int32) (x4 : Int32) (x5 : Int32) (x6 : Int32) (x7 : Int32) (S : gS) : Option (tR) := if x5 = ((-1)) then fX11_game_b98 N r40 r53 x1 x2 x3 ((x4 + 1 : Int32)) x6 x7 S else fX11_game_b109 N r40 r53 x1 x2 x3 ((x4 + 1 : Int32)) x5 x6 x7 S
theorem bX11_game_89 {N : Nat} {r40 : Int32 → Int32 → Int32 → Int32 → Int32 → Int32 → gS → Option (tR)} {r53 : Int32 → Int32 → Int32 → Int32 → Int32 → Int32 → Int32 → gS → Option (tR)} {x1 : Int32} {x2 : Int32} {x3 : Int32} {x4 : Int32} {x5 : Int32} {x6 : Int32} {x7 : Int32} {S : gS} {H : Heap} {locs : List Loc} {ls : Array Slot} {o : tR} (C : gC p s m args meth c cX11_game 8 RX11 ((some .int)) D (xtys cI cB cZ cQ) xord g Am) (O : tO l g cI cB cZ cQ Am aK aV) (Tb : ∀ x ∈ c.exceptionTable.toList, False) (K40 : ∀ (x1 : Int32) (x2 : Int32) (x3 : Int32) (x4 : Int32) (x5 : Int32) (x6 : Int32) (S : gS) (H : Heap) (locs : List Loc) (ls : Array Slot), gX D (xcell g cI cB cZ cQ) xord g S s H locs → lv_has ls 8 [(0, .ref (g 0)), (1, .int x1), (2, .int x2), (3, .int x3), (4, .int x4), (5, .int x5), (6, .int x6)] → r40 x1 x2 x3 x4 x5 x6 S = some o → W p l e (rmx 7 4) s m args below meth c H locs 3 18 (gEX below args s D (xtys cI cB cZ cQ) (xcell g cI cB cZ cQ) xord g 4 false o) (F0 m 40 ls [])) (K53 : ∀ (x1 : Int32) (x2 : Int32) (x3 : Int32) (x4 : Int32) (x5 : Int32) (x6 : Int32) (x7 : Int32) (S : gS) (H : Heap) (locs : List Loc) (ls : Array Slot), gX D (xcell g cI cB cZ cQ) xord g S s H locs → lv_has ls 8 [(0, .ref (g 0)), (1, .int x1), (2, .int x2), (3, .int x3), (4, .int x4), (5, .int x5), (6, .int x6), (7, .int x7)] → r53 x1 x2 x3 x4 x5 x6 x7 S = some o → W p l e (rmx 7 4) s m args below meth c H locs 3 18 (gEX below args s D (xtys cI cB cZ cQ) (xcell g cI cB cZ cQ) xord g 4 false o) (F0 m 53 ls [])) (X : gX D (xcell g cI cB cZ cQ) xord g S s H locs) (hl : lv_has ls 8 [(0, .ref (g 0)), (1, .int x1), (2, .int x2), (3, .int x3), (4, .int x4), (5, .int x5), (6, .int x6), (7, .int x7)]) (hF : fX11_game_b89 N r40 r53 x1 x2 x3 x4 x5 x6 x7 S = some o) : W p l e (rmx 7 4) s m args below meth c H locs 3 18 (gEX below args s D (xtys cI cB cZ cQ) (xcell g cI cB cZ cQ) xord g 4 false o) (F0 m 89 ls []) := by
  unfold fX11_game_b89 at hF
  refine lv_iinc (v := (x4 + 1 : Int32)) (lv' := [(4, .int ((x4 + 1 : Int32))), (0, .ref (g 0)), (1, .int x1), (2, .int x2), (3, .int x3), (5, .int x5), (6, .int x6), (7, .int x7)]) C.1.1 C.1.2.1 dX11_game_89 hl (k := 4) rfl rfl (by decide) rfl (fun ls hl => ?_)
  refine lv_iload C.1.1 C.1.2.1 dX11_game_92 (lv_at hl 5 rfl) ?_
  refine lv_iconst (v := (-1)) C.1.1 C.1.2.1 dX11_game_94 (by decide) ?_
  refine lv_icmp_ne (tgt := 109) C.1.1 C.1.2.1 dX11_game_95 (by decide) (fun h_z => ?_) (fun h_z => ?_)
  · rw [if_neg h_z] at hF
    exact bX11_game_109 C O Tb K40 K53 X (lv_sub hl [1, 2, 3, 4, 0, 5, 6, 7] rfl) hF
  · rw [if_pos h_z] at hF
    exact bX11_game_98 C O Tb K40 K53 X (lv_sub hl [1, 2, 3, 4, 0, 6, 7] rfl) hF
noncomputable def fX11_game_b76 (N : Nat) (r40 : Int32 → Int32 → Int32 → Int32 → Int32 → Int32 → gS → Option (tR)) (r53 : Int32 → Int32 → Int32 → Int32 → Int32 → Int32 → Int32 → gS → Option (tR)) (x1 : Int32) (x2 : Int32) (x3 : Int32) (x4 : Int32) (x5 : Int32) (x6 : Int32) (x7 : Int32) (S : gS) : Option (tR) := bnd (fX11_isContent N x2 x7 x1 x6 S) fun q1 => (if q1.1 = 0 then fX11_game_b113 N r40 r53 x1 x2 x3 x4 x5 x6 x7 q1.2 else fX11_game_b89 N r40 r53 x1 x2 x3 x4 x5 x6 x7 q1.2)
theorem bX11_game_76 {N : Nat} {r40 : Int32 → Int32 → Int32 → Int32 → Int32 → Int32 → gS → Option (tR)} {r53 : Int32 → Int32 → Int32 → Int32 → Int32 → Int32 → Int32 → gS → Option (tR)} {x1 : Int32} {x2 : Int32} {x3 : Int32} {x4 : Int32} {x5 : Int32} {x6 : Int32} {x7 : Int32} {S : gS} {H : Heap} {locs : List Loc} {ls : Array Slot} {o : tR} (C : gC p s m args meth c cX11_game 8 RX11 ((some .int)) D (xtys cI cB cZ cQ) xord g Am) (O : tO l g cI cB cZ cQ Am aK aV) (Tb : ∀ x ∈ c.exceptionTable.toList, False) (K40 : ∀ (x1 : Int32) (x2 : Int32) (x3 : Int32) (x4 : Int32) (x5 : Int32) (x6 : Int32) (S : gS) (H : Heap) (locs : List Loc) (ls : Array Slot), gX D (xcell g cI cB cZ cQ) xord g S s H locs → lv_has ls 8 [(0, .ref (g 0)), (1, .int x1), (2, .int x2), (3, .int x3), (4, .int x4), (5, .int x5), (6, .int x6)] → r40 x1 x2 x3 x4 x5 x6 S = some o → W p l e (rmx 7 4) s m args below meth c H locs 3 18 (gEX below args s D (xtys cI cB cZ cQ) (xcell g cI cB cZ cQ) xord g 4 false o) (F0 m 40 ls [])) (K53 : ∀ (x1 : Int32) (x2 : Int32) (x3 : Int32) (x4 : Int32) (x5 : Int32) (x6 : Int32) (x7 : Int32) (S : gS) (H : Heap) (locs : List Loc) (ls : Array Slot), gX D (xcell g cI cB cZ cQ) xord g S s H locs → lv_has ls 8 [(0, .ref (g 0)), (1, .int x1), (2, .int x2), (3, .int x3), (4, .int x4), (5, .int x5), (6, .int x6), (7, .int x7)] → r53 x1 x2 x3 x4 x5 x6 x7 S = some o → W p l e (rmx 7 4) s m args below meth c H locs 3 18 (gEX below args s D (xtys cI cB cZ cQ) (xcell g cI cB cZ cQ) xord g 4 false o) (F0 m 53 ls [])) (X : gX D (xcell g cI cB cZ cQ) xord g S s H locs) (hl : lv_has ls 8 [(0, .ref (g 0)), (1, .int x1), (2, .int x2), (3, .int x3), (4, .int x4), (5, .int x5), (6, .int x6), (7, .int x7)]) (hF : fX11_game_b76 N r40 r53 x1 x2 x3 x4 x5 x6 x7 S = some o) : W p l e (rmx 7 4) s m args below meth c H locs 3 18 (gEX below args s D (xtys cI cB cZ cQ) (xcell g cI cB cZ cQ) xord g 4 false o) (F0 m 76 ls []) := by
  unfold fX11_game_b76 at hF
  refine lv_aload_n C.1.1 C.1.2.1 dX11_game_76 rfl (lv_at hl 0 rfl) ?_
  refine lv_iload_n C.1.1 C.1.2.1 dX11_game_77 rfl (lv_at hl 2 rfl) ?_
  refine lv_iload C.1.1 C.1.2.1 dX11_game_78 (lv_at hl 7 rfl) ?_
  refine lv_iload_n C.1.1 C.1.2.1 dX11_game_80 rfl (lv_at hl 1 rfl) ?_
  refine lv_iload C.1.1 C.1.2.1 dX11_game_81 (lv_at hl 6 rfl) ?_
  obtain ⟨q1, hq1, hF⟩ := bnd_some hF
  refine x_callVi C X (k := 0) xv_X11_349 (rfl : xk 0 = 11) rfl rfl (by decide) (kX11_isContent O.1.1 C.2.2.2.2.1 N x2 x7 x1 x6 S q1 hq1) (Nat.le_of_ble_eq_true rfl) (Nat.le_of_ble_eq_true rfl) (Nat.le_of_ble_eq_true rfl) (Nat.le_of_ble_eq_true rfl) rfl hl.1 rfl (Nat.le_of_ble_eq_true rfl) dX11_game_83 (fun H locs X => ?_)
  refine lv_if_eq (tgt := 113) C.1.1 C.1.2.1 dX11_game_86 (by decide) (fun h_z => ?_) (fun h_z => ?_)
  · rw [if_pos h_z] at hF
    exact bX11_game_113 C O Tb K40 K53 X (lv_sub hl [0, 1, 2, 3, 4, 5, 6, 7] rfl) hF
  · rw [if_neg h_z] at hF
    exact bX11_game_89 C O Tb K40 K53 X (lv_sub hl [0, 1, 2, 3, 4, 5, 6, 7] rfl) hF
noncomputable def fX11_game_b63 (N : Nat) (r40 : Int32 → Int32 → Int32 → Int32 → Int32 → Int32 → gS → Option (tR)) (r53 : Int32 → Int32 → Int32 → Int32 → Int32 → Int32 → Int32 → gS → Option (tR)) (x1 : Int32) (x2 : Int32) (x3 : Int32) (x4 : Int32) (x5 : Int32) (x6 : Int32) (x7 : Int32) (S : gS) : Option (tR) := bnd (fX11_isContent N x1 x6 x2 x7 S) fun q1 => (if q1.1 = 0 then fX11_game_b113 N r40 r53 x1 x2 x3 x4 x5 x6 x7 q1.2 else fX11_game_b76 N r40 r53 x1 x2 x3 x4 x5 x6 x7 q1.2)
theorem bX11_game_63 {N : Nat} {r40 : Int32 → Int32 → Int32 → Int32 → Int32 → Int32 → gS → Option (tR)} {r53 : Int32 → Int32 → Int32 → Int32 → Int32 → Int32 → Int32 → gS → Option (tR)} {x1 : Int32} {x2 : Int32} {x3 : Int32} {x4 : Int32} {x5 : Int32} {x6 : Int32} {x7 : Int32} {S : gS} {H : Heap} {locs : List Loc} {ls : Array Slot} {o : tR} (C : gC p s m args meth c cX11_game 8 RX11 ((some .int)) D (xtys cI cB cZ cQ) xord g Am) (O : tO l g cI cB cZ cQ Am aK aV) (Tb : ∀ x ∈ c.exceptionTable.toList, False) (K40 : ∀ (x1 : Int32) (x2 : Int32) (x3 : Int32) (x4 : Int32) (x5 : Int32) (x6 : Int32) (S : gS) (H : Heap) (locs : List Loc) (ls : Array Slot), gX D (xcell g cI cB cZ cQ) xord g S s H locs → lv_has ls 8 [(0, .ref (g 0)), (1, .int x1), (2, .int x2), (3, .int x3), (4, .int x4), (5, .int x5), (6, .int x6)] → r40 x1 x2 x3 x4 x5 x6 S = some o → W p l e (rmx 7 4) s m args below meth c H locs 3 18 (gEX below args s D (xtys cI cB cZ cQ) (xcell g cI cB cZ cQ) xord g 4 false o) (F0 m 40 ls [])) (K53 : ∀ (x1 : Int32) (x2 : Int32) (x3 : Int32) (x4 : Int32) (x5 : Int32) (x6 : Int32) (x7 : Int32) (S : gS) (H : Heap) (locs : List Loc) (ls : Array Slot), gX D (xcell g cI cB cZ cQ) xord g S s H locs → lv_has ls 8 [(0, .ref (g 0)), (1, .int x1), (2, .int x2), (3, .int x3), (4, .int x4), (5, .int x5), (6, .int x6), (7, .int x7)] → r53 x1 x2 x3 x4 x5 x6 x7 S = some o → W p l e (rmx 7 4) s m args below meth c H locs 3 18 (gEX below args s D (xtys cI cB cZ cQ) (xcell g cI cB cZ cQ) xord g 4 false o) (F0 m 53 ls [])) (X : gX D (xcell g cI cB cZ cQ) xord g S s H locs) (hl : lv_has ls 8 [(0, .ref (g 0)), (1, .int x1), (2, .int x2), (3, .int x3), (4, .int x4), (5, .int x5), (6, .int x6), (7, .int x7)]) (hF : fX11_game_b63 N r40 r53 x1 x2 x3 x4 x5 x6 x7 S = some o) : W p l e (rmx 7 4) s m args below meth c H locs 3 18 (gEX below args s D (xtys cI cB cZ cQ) (xcell g cI cB cZ cQ) xord g 4 false o) (F0 m 63 ls []) := by
  unfold fX11_game_b63 at hF
  refine lv_aload_n C.1.1 C.1.2.1 dX11_game_63 rfl (lv_at hl 0 rfl) ?_
  refine lv_iload_n C.1.1 C.1.2.1 dX11_game_64 rfl (lv_at hl 1 rfl) ?_
  refine lv_iload C.1.1 C.1.2.1 dX11_game_65 (lv_at hl 6 rfl) ?_
  refine lv_iload_n C.1.1 C.1.2.1 dX11_game_67 rfl (lv_at hl 2 rfl) ?_
  refine lv_iload C.1.1 C.1.2.1 dX11_game_68 (lv_at hl 7 rfl) ?_
  obtain ⟨q1, hq1, hF⟩ := bnd_some hF
  refine x_callVi C X (k := 0) xv_X11_349 (rfl : xk 0 = 11) rfl rfl (by decide) (kX11_isContent O.1.1 C.2.2.2.2.1 N x1 x6 x2 x7 S q1 hq1) (Nat.le_of_ble_eq_true rfl) (Nat.le_of_ble_eq_true rfl) (Nat.le_of_ble_eq_true rfl) (Nat.le_of_ble_eq_true rfl) rfl hl.1 rfl (Nat.le_of_ble_eq_true rfl) dX11_game_70 (fun H locs X => ?_)
  refine lv_if_eq (tgt := 113) C.1.1 C.1.2.1 dX11_game_73 (by decide) (fun h_z => ?_) (fun h_z => ?_)
  · rw [if_pos h_z] at hF
    exact bX11_game_113 C O Tb K40 K53 X (lv_sub hl [0, 1, 2, 3, 4, 5, 6, 7] rfl) hF
  · rw [if_neg h_z] at hF
    exact bX11_game_76 C O Tb K40 K53 X (lv_sub hl [0, 1, 2, 3, 4, 5, 6, 7] rfl) hF
noncomputable def fX11_game_b53 (N : Nat) (r40 : Int32 → Int32 → Int32 → Int32 → Int32 → Int32 → gS → Option (tR)) (r53 : Int32 → Int32 → Int32 → Int32 → Int32 → Int32 → Int32 → gS → Option (tR)) (x1 : Int32) (x2 : Int32) (x3 : Int32) (x4 : Int32) (x5 : Int32) (x6 : Int32) (x7 : Int32) (S : gS) : Option (tR) := bnd (fX11_mostChoice N x2 S) fun q1 => (if q1.1 < x7 then fX11_game_b119 N r40 x1 x2 x3 x4 x5 x6 q1.2 else fX11_game_b63 N r40 r53 x1 x2 x3 x4 x5 x6 x7 q1.2)
theorem bX11_game_53 {N : Nat} {r40 : Int32 → Int32 → Int32 → Int32 → Int32 → Int32 → gS → Option (tR)} {r53 : Int32 → Int32 → Int32 → Int32 → Int32 → Int32 → Int32 → gS → Option (tR)} {x1 : Int32} {x2 : Int32} {x3 : Int32} {x4 : Int32} {x5 : Int32} {x6 : Int32} {x7 : Int32} {S : gS} {H : Heap} {locs : List Loc} {ls : Array Slot} {o : tR} (C : gC p s m args meth c cX11_game 8 RX11 ((some .int)) D (xtys cI cB cZ cQ) xord g Am) (O : tO l g cI cB cZ cQ Am aK aV) (Tb : ∀ x ∈ c.exceptionTable.toList, False) (K40 : ∀ (x1 : Int32) (x2 : Int32) (x3 : Int32) (x4 : Int32) (x5 : Int32) (x6 : Int32) (S : gS) (H : Heap) (locs : List Loc) (ls : Array Slot), gX D (xcell g cI cB cZ cQ) xord g S s H locs → lv_has ls 8 [(0, .ref (g 0)), (1, .int x1), (2, .int x2), (3, .int x3), (4, .int x4), (5, .int x5), (6, .int x6)] → r40 x1 x2 x3 x4 x5 x6 S = some o → W p l e (rmx 7 4) s m args below meth c H locs 3 18 (gEX below args s D (xtys cI cB cZ cQ) (xcell g cI cB cZ cQ) xord g 4 false o) (F0 m 40 ls [])) (K53 : ∀ (x1 : Int32) (x2 : Int32) (x3 : Int32) (x4 : Int32) (x5 : Int32) (x6 : Int32) (x7 : Int32) (S : gS) (H : Heap) (locs : List Loc) (ls : Array Slot), gX D (xcell g cI cB cZ cQ) xord g S s H locs → lv_has ls 8 [(0, .ref (g 0)), (1, .int x1), (2, .int x2), (3, .int x3), (4, .int x4), (5, .int x5), (6, .int x6), (7, .int x7)] → r53 x1 x2 x3 x4 x5 x6 x7 S = some o → W p l e (rmx 7 4) s m args below meth c H locs 3 18 (gEX below args s D (xtys cI cB cZ cQ) (xcell g cI cB cZ cQ) xord g 4 false o) (F0 m 53 ls [])) (X : gX D (xcell g cI cB cZ cQ) xord g S s H locs) (hl : lv_has ls 8 [(0, .ref (g 0)), (1, .int x1), (2, .int x2), (3, .int x3), (4, .int x4), (5, .int x5), (6, .int x6), (7, .int x7)]) (hF : fX11_game_b53 N r40 r53 x1 x2 x3 x4 x5 x6 x7 S = some o) : W p l e (rmx 7 4) s m args below meth c H locs 3 18 (gEX below args s D (xtys cI cB cZ cQ) (xcell g cI cB cZ cQ) xord g 4 false o) (F0 m 53 ls []) := by
  unfold fX11_game_b53 at hF
  refine lv_iload C.1.1 C.1.2.1 dX11_game_53 (lv_at hl 7 rfl) ?_
  refine lv_aload_n C.1.1 C.1.2.1 dX11_game_55 rfl (lv_at hl 0 rfl) ?_
  refine lv_iload_n C.1.1 C.1.2.1 dX11_game_56 rfl (lv_at hl 2 rfl) ?_
  obtain ⟨q1, hq1, hF⟩ := bnd_some hF
  refine x_callVi C X (k := 0) xv_X11_346 (rfl : xk 0 = 11) rfl rfl (by decide) (kX11_mostChoice O.1.1 C.2.2.2.2.1 N x2 S q1 hq1) (Nat.le_of_ble_eq_true rfl) (Nat.le_of_ble_eq_true rfl) (Nat.le_of_ble_eq_true rfl) (Nat.le_of_ble_eq_true rfl) rfl hl.1 rfl (Nat.le_of_ble_eq_true rfl) dX11_game_57 (fun H locs X => ?_)
  refine lv_icmp_gt (tgt := 119) C.1.1 C.1.2.1 dX11_game_60 (by decide) (fun h_z => ?_) (fun h_z => ?_)
  · rw [if_pos h_z] at hF
    exact bX11_game_119 C O Tb K40 X (lv_sub hl [0, 1, 2, 3, 4, 5, 6] rfl) hF
  · rw [if_neg h_z] at hF
    exact bX11_game_63 C O Tb K40 K53 X (lv_sub hl [0, 1, 2, 3, 4, 5, 6, 7] rfl) hF
noncomputable def fX11_game_h53 (N : Nat) (r40 : Int32 → Int32 → Int32 → Int32 → Int32 → Int32 → gS → Option (tR)) : Nat → Int32 → Int32 → Int32 → Int32 → Int32 → Int32 → Int32 → gS → Option (tR)
  | 0, _, _, _, _, _, _, _, _ => none
  | n + 1, x1, x2, x3, x4, x5, x6, x7, S => fX11_game_b53 N r40 (fX11_game_h53 N r40 n) x1 x2 x3 x4 x5 x6 x7 S
theorem hX11_game_53 {N : Nat} {r40 : Int32 → Int32 → Int32 → Int32 → Int32 → Int32 → gS → Option (tR)} {o : tR} (C : gC p s m args meth c cX11_game 8 RX11 ((some .int)) D (xtys cI cB cZ cQ) xord g Am) (O : tO l g cI cB cZ cQ Am aK aV) (Tb : ∀ x ∈ c.exceptionTable.toList, False) (K40 : ∀ (x1 : Int32) (x2 : Int32) (x3 : Int32) (x4 : Int32) (x5 : Int32) (x6 : Int32) (S : gS) (H : Heap) (locs : List Loc) (ls : Array Slot), gX D (xcell g cI cB cZ cQ) xord g S s H locs → lv_has ls 8 [(0, .ref (g 0)), (1, .int x1), (2, .int x2), (3, .int x3), (4, .int x4), (5, .int x5), (6, .int x6)] → r40 x1 x2 x3 x4 x5 x6 S = some o → W p l e (rmx 7 4) s m args below meth c H locs 3 18 (gEX below args s D (xtys cI cB cZ cQ) (xcell g cI cB cZ cQ) xord g 4 false o) (F0 m 40 ls [])) : ∀ (n : Nat) (x1 : Int32) (x2 : Int32) (x3 : Int32) (x4 : Int32) (x5 : Int32) (x6 : Int32) (x7 : Int32) (S : gS) (H : Heap) (locs : List Loc) (ls : Array Slot), gX D (xcell g cI cB cZ cQ) xord g S s H locs → lv_has ls 8 [(0, .ref (g 0)), (1, .int x1), (2, .int x2), (3, .int x3), (4, .int x4), (5, .int x5), (6, .int x6), (7, .int x7)] → fX11_game_h53 N r40 n x1 x2 x3 x4 x5 x6 x7 S = some o → W p l e (rmx 7 4) s m args below meth c H locs 3 18 (gEX below args s D (xtys cI cB cZ cQ) (xcell g cI cB cZ cQ) xord g 4 false o) (F0 m 53 ls []) := by
  intro n
  induction n with
  | zero =>
    intro x1 x2 x3 x4 x5 x6 x7 S H locs ls X hl hF
    exact absurd (show (none : Option (tR)) = some o from hF) (by simp)
  | succ n ih =>
    intro x1 x2 x3 x4 x5 x6 x7 S H locs ls X hl hF
    have hF : fX11_game_b53 N r40 (fX11_game_h53 N r40 n) x1 x2 x3 x4 x5 x6 x7 S = some o := hF
    exact bX11_game_53 C O Tb K40 ih X hl hF
noncomputable def fX11_game_b50 (N : Nat) (r40 : Int32 → Int32 → Int32 → Int32 → Int32 → Int32 → gS → Option (tR)) (x1 : Int32) (x2 : Int32) (x3 : Int32) (x4 : Int32) (x5 : Int32) (x6 : Int32) (S : gS) : Option (tR) := fX11_game_h53 N r40 N x1 x2 x3 x4 x5 x6 0 S
theorem bX11_game_50 {N : Nat} {r40 : Int32 → Int32 → Int32 → Int32 → Int32 → Int32 → gS → Option (tR)} {x1 : Int32} {x2 : Int32} {x3 : Int32} {x4 : Int32} {x5 : Int32} {x6 : Int32} {S : gS} {H : Heap} {locs : List Loc} {ls : Array Slot} {o : tR} (C : gC p s m args meth c cX11_game 8 RX11 ((some .int)) D (xtys cI cB cZ cQ) xord g Am) (O : tO l g cI cB cZ cQ Am aK aV) (Tb : ∀ x ∈ c.exceptionTable.toList, False) (K40 : ∀ (x1 : Int32) (x2 : Int32) (x3 : Int32) (x4 : Int32) (x5 : Int32) (x6 : Int32) (S : gS) (H : Heap) (locs : List Loc) (ls : Array Slot), gX D (xcell g cI cB cZ cQ) xord g S s H locs → lv_has ls 8 [(0, .ref (g 0)), (1, .int x1), (2, .int x2), (3, .int x3), (4, .int x4), (5, .int x5), (6, .int x6)] → r40 x1 x2 x3 x4 x5 x6 S = some o → W p l e (rmx 7 4) s m args below meth c H locs 3 18 (gEX below args s D (xtys cI cB cZ cQ) (xcell g cI cB cZ cQ) xord g 4 false o) (F0 m 40 ls [])) (X : gX D (xcell g cI cB cZ cQ) xord g S s H locs) (hl : lv_has ls 8 [(0, .ref (g 0)), (1, .int x1), (2, .int x2), (3, .int x3), (4, .int x4), (5, .int x5), (6, .int x6)]) (hF : fX11_game_b50 N r40 x1 x2 x3 x4 x5 x6 S = some o) : W p l e (rmx 7 4) s m args below meth c H locs 3 18 (gEX below args s D (xtys cI cB cZ cQ) (xcell g cI cB cZ cQ) xord g 4 false o) (F0 m 50 ls []) := by
  unfold fX11_game_b50 at hF
  refine lv_iconst (v := 0) C.1.1 C.1.2.1 dX11_game_50 (by decide) ?_
  refine lv_istore (lv' := [(7, .int 0), (0, .ref (g 0)), (1, .int x1), (2, .int x2), (3, .int x3), (4, .int x4), (5, .int x5), (6, .int x6)]) C.1.1 C.1.2.1 dX11_game_51 hl (by decide) rfl (fun ls hl => ?_)
  exact hX11_game_53 C O Tb K40 N _ _ _ _ _ _ _ _ _ _ _ X (lv_sub hl [1, 2, 3, 4, 5, 6, 7, 0] rfl) hF
noncomputable def fX11_game_b40 (N : Nat) (r40 : Int32 → Int32 → Int32 → Int32 → Int32 → Int32 → gS → Option (tR)) (x1 : Int32) (x2 : Int32) (x3 : Int32) (x4 : Int32) (x5 : Int32) (x6 : Int32) (S : gS) : Option (tR) := bnd (fX11_mostChoice N x1 S) fun q1 => (if q1.1 < x6 then fX11_game_b125 N x3 x4 x5 q1.2 else fX11_game_b50 N r40 x1 x2 x3 x4 x5 x6 q1.2)
theorem bX11_game_40 {N : Nat} {r40 : Int32 → Int32 → Int32 → Int32 → Int32 → Int32 → gS → Option (tR)} {x1 : Int32} {x2 : Int32} {x3 : Int32} {x4 : Int32} {x5 : Int32} {x6 : Int32} {S : gS} {H : Heap} {locs : List Loc} {ls : Array Slot} {o : tR} (C : gC p s m args meth c cX11_game 8 RX11 ((some .int)) D (xtys cI cB cZ cQ) xord g Am) (O : tO l g cI cB cZ cQ Am aK aV) (Tb : ∀ x ∈ c.exceptionTable.toList, False) (K40 : ∀ (x1 : Int32) (x2 : Int32) (x3 : Int32) (x4 : Int32) (x5 : Int32) (x6 : Int32) (S : gS) (H : Heap) (locs : List Loc) (ls : Array Slot), gX D (xcell g cI cB cZ cQ) xord g S s H locs → lv_has ls 8 [(0, .ref (g 0)), (1, .int x1), (2, .int x2), (3, .int x3), (4, .int x4), (5, .int x5), (6, .int x6)] → r40 x1 x2 x3 x4 x5 x6 S = some o → W p l e (rmx 7 4) s m args below meth c H locs 3 18 (gEX below args s D (xtys cI cB cZ cQ) (xcell g cI cB cZ cQ) xord g 4 false o) (F0 m 40 ls [])) (X : gX D (xcell g cI cB cZ cQ) xord g S s H locs) (hl : lv_has ls 8 [(0, .ref (g 0)), (1, .int x1), (2, .int x2), (3, .int x3), (4, .int x4), (5, .int x5), (6, .int x6)]) (hF : fX11_game_b40 N r40 x1 x2 x3 x4 x5 x6 S = some o) : W p l e (rmx 7 4) s m args below meth c H locs 3 18 (gEX below args s D (xtys cI cB cZ cQ) (xcell g cI cB cZ cQ) xord g 4 false o) (F0 m 40 ls []) := by
  unfold fX11_game_b40 at hF
  refine lv_iload C.1.1 C.1.2.1 dX11_game_40 (lv_at hl 6 rfl) ?_
  refine lv_aload_n C.1.1 C.1.2.1 dX11_game_42 rfl (lv_at hl 0 rfl) ?_
  refine lv_iload_n C.1.1 C.1.2.1 dX11_game_43 rfl (lv_at hl 1 rfl) ?_
  obtain ⟨q1, hq1, hF⟩ := bnd_some hF
  refine x_callVi C X (k := 0) xv_X11_346 (rfl : xk 0 = 11) rfl rfl (by decide) (kX11_mostChoice O.1.1 C.2.2.2.2.1 N x1 S q1 hq1) (Nat.le_of_ble_eq_true rfl) (Nat.le_of_ble_eq_true rfl) (Nat.le_of_ble_eq_true rfl) (Nat.le_of_ble_eq_true rfl) rfl hl.1 rfl (Nat.le_of_ble_eq_true rfl) dX11_game_44 (fun H locs X => ?_)
  refine lv_icmp_gt (tgt := 125) C.1.1 C.1.2.1 dX11_game_47 (by decide) (fun h_z => ?_) (fun h_z => ?_)
  · rw [if_pos h_z] at hF
    exact bX11_game_125 C O Tb X (lv_sub hl [3, 4, 5] rfl) hF
  · rw [if_neg h_z] at hF
    exact bX11_game_50 C O Tb K40 X (lv_sub hl [0, 1, 2, 3, 4, 5, 6] rfl) hF
noncomputable def fX11_game_h40 (N : Nat) : Nat → Int32 → Int32 → Int32 → Int32 → Int32 → Int32 → gS → Option (tR)
  | 0, _, _, _, _, _, _, _ => none
  | n + 1, x1, x2, x3, x4, x5, x6, S => fX11_game_b40 N (fX11_game_h40 N n) x1 x2 x3 x4 x5 x6 S
theorem hX11_game_40 {N : Nat} {o : tR} (C : gC p s m args meth c cX11_game 8 RX11 ((some .int)) D (xtys cI cB cZ cQ) xord g Am) (O : tO l g cI cB cZ cQ Am aK aV) (Tb : ∀ x ∈ c.exceptionTable.toList, False) : ∀ (n : Nat) (x1 : Int32) (x2 : Int32) (x3 : Int32) (x4 : Int32) (x5 : Int32) (x6 : Int32) (S : gS) (H : Heap) (locs : List Loc) (ls : Array Slot), gX D (xcell g cI cB cZ cQ) xord g S s H locs → lv_has ls 8 [(0, .ref (g 0)), (1, .int x1), (2, .int x2), (3, .int x3), (4, .int x4), (5, .int x5), (6, .int x6)] → fX11_game_h40 N n x1 x2 x3 x4 x5 x6 S = some o → W p l e (rmx 7 4) s m args below meth c H locs 3 18 (gEX below args s D (xtys cI cB cZ cQ) (xcell g cI cB cZ cQ) xord g 4 false o) (F0 m 40 ls []) := by
  intro n
  induction n with
  | zero =>
    intro x1 x2 x3 x4 x5 x6 S H locs ls X hl hF
    exact absurd (show (none : Option (tR)) = some o from hF) (by simp)
  | succ n ih =>
    intro x1 x2 x3 x4 x5 x6 S H locs ls X hl hF
    have hF : fX11_game_b40 N (fX11_game_h40 N n) x1 x2 x3 x4 x5 x6 S = some o := hF
    exact bX11_game_40 C O Tb ih X hl hF
noncomputable def fX11_game_b31 (N : Nat) (x1 : Int32) (x2 : Int32) (x3 : Int32) (S : gS) : Option (tR) := fX11_game_h40 N N x1 x2 x3 0 ((-1)) 0 S
theorem bX11_game_31 {N : Nat} {x1 : Int32} {x2 : Int32} {x3 : Int32} {S : gS} {H : Heap} {locs : List Loc} {ls : Array Slot} {o : tR} (C : gC p s m args meth c cX11_game 8 RX11 ((some .int)) D (xtys cI cB cZ cQ) xord g Am) (O : tO l g cI cB cZ cQ Am aK aV) (Tb : ∀ x ∈ c.exceptionTable.toList, False) (X : gX D (xcell g cI cB cZ cQ) xord g S s H locs) (hl : lv_has ls 8 [(0, .ref (g 0)), (1, .int x1), (2, .int x2), (3, .int x3)]) (hF : fX11_game_b31 N x1 x2 x3 S = some o) : W p l e (rmx 7 4) s m args below meth c H locs 3 18 (gEX below args s D (xtys cI cB cZ cQ) (xcell g cI cB cZ cQ) xord g 4 false o) (F0 m 31 ls []) := by
  unfold fX11_game_b31 at hF
  refine lv_iconst (v := 0) C.1.1 C.1.2.1 dX11_game_31 (by decide) ?_
  refine lv_istore (lv' := [(4, .int 0), (0, .ref (g 0)), (1, .int x1), (2, .int x2), (3, .int x3)]) C.1.1 C.1.2.1 dX11_game_32 hl (by decide) rfl (fun ls hl => ?_)
  refine lv_iconst (v := (-1)) C.1.1 C.1.2.1 dX11_game_34 (by decide) ?_
  refine lv_istore (lv' := [(5, .int ((-1))), (4, .int 0), (0, .ref (g 0)), (1, .int x1), (2, .int x2), (3, .int x3)]) C.1.1 C.1.2.1 dX11_game_35 hl (by decide) rfl (fun ls hl => ?_)
  refine lv_iconst (v := 0) C.1.1 C.1.2.1 dX11_game_37 (by decide) ?_
  refine lv_istore (lv' := [(6, .int 0), (5, .int ((-1))), (4, .int 0), (0, .ref (g 0)), (1, .int x1), (2, .int x2), (3, .int x3)]) C.1.1 C.1.2.1 dX11_game_38 hl (by decide) rfl (fun ls hl => ?_)
  exact hX11_game_40 C O Tb N _ _ _ _ _ _ _ _ _ _ X (lv_sub hl [3, 4, 5, 6, 2, 1, 0] rfl) hF
noncomputable def fX11_game_b20 (N : Nat) (S : gS) : Option (tR) := some (2, 0, S)
theorem bX11_game_20 {N : Nat} {S : gS} {H : Heap} {locs : List Loc} {ls : Array Slot} {o : tR} (C : gC p s m args meth c cX11_game 8 RX11 ((some .int)) D (xtys cI cB cZ cQ) xord g Am) (O : tO l g cI cB cZ cQ Am aK aV) (Tb : ∀ x ∈ c.exceptionTable.toList, False) (X : gX D (xcell g cI cB cZ cQ) xord g S s H locs) (hl : lv_has ls 8 []) (hF : fX11_game_b20 N S = some o) : W p l e (rmx 7 4) s m args below meth c H locs 3 18 (gEX below args s D (xtys cI cB cZ cQ) (xcell g cI cB cZ cQ) xord g 4 false o) (F0 m 20 ls []) := by
  unfold fX11_game_b20 at hF
  cases hF
  exact t_newIW (ii := 27) C O Tb X hl.1 rfl dX11_game_20 dX11_game_23 dX11_game_24 dX11_game_27 dX11_game_30 (Nat.le_of_ble_eq_true rfl) (Nat.le_of_ble_eq_true rfl) (Nat.le_of_ble_eq_true rfl) (Nat.le_of_ble_eq_true rfl) (by decide) (by decide)
noncomputable def fX11_game_b0 (N : Nat) (x1 : Int32) (x2 : Int32) (x3 : Int32) (S : gS) : Option (tR) := bnx (fX11_needGuild N x1 S) fun q1 => (bnx (fX11_needGuild N x2 q1.2.2) fun q2 => (bnx (fX11_needWhat N x3 1 q2.2.2) fun q3 => (if x1 = x2 then fX11_game_b20 N q3.2.2 else fX11_game_b31 N x1 x2 x3 q3.2.2)))
theorem bX11_game_0 {N : Nat} {x1 : Int32} {x2 : Int32} {x3 : Int32} {S : gS} {H : Heap} {locs : List Loc} {ls : Array Slot} {o : tR} (C : gC p s m args meth c cX11_game 8 RX11 ((some .int)) D (xtys cI cB cZ cQ) xord g Am) (O : tO l g cI cB cZ cQ Am aK aV) (Tb : ∀ x ∈ c.exceptionTable.toList, False) (X : gX D (xcell g cI cB cZ cQ) xord g S s H locs) (hl : lv_has ls 8 [(0, .ref (g 0)), (1, .int x1), (2, .int x2), (3, .int x3)]) (hF : fX11_game_b0 N x1 x2 x3 S = some o) : W p l e (rmx 7 4) s m args below meth c H locs 0 0 (gEX below args s D (xtys cI cB cZ cQ) (xcell g cI cB cZ cQ) xord g 4 false o) (F0 m 0 ls []) := by
  unfold fX11_game_b0 at hF
  refine lv_aload_n C.1.1 C.1.2.1 dX11_game_0 rfl (lv_at hl 0 rfl) ?_
  refine lv_iload_n C.1.1 C.1.2.1 dX11_game_1 rfl (lv_at hl 1 rfl) ?_
  rcases (bnx_some hF).symm with ⟨q1, hq1, zq1, eo⟩ | ⟨q1, hq1, zq1, hF⟩
  · subst eo
    exact t_thr (x_preT C X xv_X11_191 rfl (kX11_needGuild O C.2.2.2.2.1 N x1 S q1 hq1) (Nat.le_of_ble_eq_true rfl) (Nat.le_of_ble_eq_true rfl) (Nat.le_of_ble_eq_true rfl) (Nat.le_of_ble_eq_true rfl) rfl hl.1 rfl (Nat.le_of_ble_eq_true rfl) dX11_game_2) zq1 C Tb X (by decide) (by decide)
  refine t_okv (x_preT C X xv_X11_191 rfl (kX11_needGuild O C.2.2.2.2.1 N x1 S q1 hq1) (Nat.le_of_ble_eq_true rfl) (Nat.le_of_ble_eq_true rfl) (Nat.le_of_ble_eq_true rfl) (Nat.le_of_ble_eq_true rfl) rfl hl.1 rfl (Nat.le_of_ble_eq_true rfl) dX11_game_2) zq1 X (fun H locs X => ?_)
  refine W.widen (k := 1) (n := 6) (by decide) (by decide) ?_
  refine lv_aload_n C.1.1 C.1.2.1 dX11_game_5 rfl (lv_at hl 0 rfl) ?_
  refine lv_iload_n C.1.1 C.1.2.1 dX11_game_6 rfl (lv_at hl 2 rfl) ?_
  rcases (bnx_some hF).symm with ⟨q2, hq2, zq2, eo⟩ | ⟨q2, hq2, zq2, hF⟩
  · subst eo
    exact t_thr (x_preT C X xv_X11_191 rfl (kX11_needGuild O C.2.2.2.2.1 N x2 q1.2.2 q2 hq2) (Nat.le_of_ble_eq_true rfl) (Nat.le_of_ble_eq_true rfl) (Nat.le_of_ble_eq_true rfl) (Nat.le_of_ble_eq_true rfl) rfl hl.1 rfl (Nat.le_of_ble_eq_true rfl) dX11_game_7) zq2 C Tb X (by decide) (by decide)
  refine t_okv (x_preT C X xv_X11_191 rfl (kX11_needGuild O C.2.2.2.2.1 N x2 q1.2.2 q2 hq2) (Nat.le_of_ble_eq_true rfl) (Nat.le_of_ble_eq_true rfl) (Nat.le_of_ble_eq_true rfl) (Nat.le_of_ble_eq_true rfl) rfl hl.1 rfl (Nat.le_of_ble_eq_true rfl) dX11_game_7) zq2 X (fun H locs X => ?_)
  refine W.widen (k := 2) (n := 12) (by decide) (by decide) ?_
  refine lv_iload_n C.1.1 C.1.2.1 dX11_game_10 rfl (lv_at hl 3 rfl) ?_
  refine lv_iconst (v := 1) C.1.1 C.1.2.1 dX11_game_11 (by decide) ?_
  rcases (bnx_some hF).symm with ⟨q3, hq3, zq3, eo⟩ | ⟨q3, hq3, zq3, hF⟩
  · subst eo
    exact t_thr (t_preS C X xv_X11_236 (kX11_needWhat O C.2.2.2.2.1 N x3 1 q2.2.2 q3 hq3) (Nat.le_of_ble_eq_true rfl) (Nat.le_of_ble_eq_true rfl) (Nat.le_of_ble_eq_true rfl) (Nat.le_of_ble_eq_true rfl) rfl hl.1 rfl (Nat.le_of_ble_eq_true rfl) dX11_game_12) zq3 C Tb X (by decide) (by decide)
  refine t_okv (t_preS C X xv_X11_236 (kX11_needWhat O C.2.2.2.2.1 N x3 1 q2.2.2 q3 hq3) (Nat.le_of_ble_eq_true rfl) (Nat.le_of_ble_eq_true rfl) (Nat.le_of_ble_eq_true rfl) (Nat.le_of_ble_eq_true rfl) rfl hl.1 rfl (Nat.le_of_ble_eq_true rfl) dX11_game_12) zq3 X (fun H locs X => ?_)
  refine W.widen (k := 3) (n := 18) (by decide) (by decide) ?_
  refine lv_iload_n C.1.1 C.1.2.1 dX11_game_15 rfl (lv_at hl 1 rfl) ?_
  refine lv_iload_n C.1.1 C.1.2.1 dX11_game_16 rfl (lv_at hl 2 rfl) ?_
  refine lv_icmp_ne (tgt := 31) C.1.1 C.1.2.1 dX11_game_17 (by decide) (fun h_z => ?_) (fun h_z => ?_)
  · rw [if_neg h_z] at hF
    exact bX11_game_31 C O Tb X (lv_sub hl [0, 1, 2, 3] rfl) hF
  · rw [if_pos h_z] at hF
    exact bX11_game_20 C O Tb X (lv_sub hl [] rfl) hF
noncomputable def fX11_game (N : Nat) (x1 : Int32) (x2 : Int32) (x3 : Int32) (S : gS) : Option (tR) := fX11_game_b0 N x1 x2 x3 S
theorem kX11_game {l : Launch} {D : va_G} {g : Nat → Nat} {cI cB cZ cQ : ClassId} {Am : (Nat → Prop) → State → Heap → Prop} {aK aV : Nat → Nat} (O : tO l g cI cB cZ cQ Am aK aV) (P : gAm Am) (N : Nat) (x1 : Int32) (x2 : Int32) (x3 : Int32) (S : gS) (o : tR) (hF : fX11_game N x1 x2 x3 S = some o) : gN l yX11_game cX11_game 8 ((some .int)) 7 4 D (xtys cI cB cZ cQ) (xcell g cI cB cZ cQ) xord g Am [.ref (g 0), .int x1, .int x2, .int x3] S false o :=
  gN_of P (by decide) (Nat.le_of_ble_eq_true rfl) (fun p e s m args below meth c ls C Tb X hl => bX11_game_0 C O Tb X (lv_sub hl [0, 1, 2, 3] rfl) hF)
-- X11.years
noncomputable def fX11_years_b119 (N : Nat) (S : gS) : Option (tR) := lt (xtw S) fun T1 => (bnd (fX7_hiredBits N 46 T1 S) fun q1 => (bnd (fJ6_bitCount_0f7a4 N q1.1 q1.2) fun q2 => (some (0, q2.1, q2.2))))
theorem bX11_years_119 {N : Nat} {S : gS} {H : Heap} {locs : List Loc} {ls : Array Slot} {o : tR} (C : gC p s m args meth c cX11_years 6 RX11 ((some .int)) D (xtys cI cB cZ cQ) xord g Am) (O : tO l g cI cB cZ cQ Am aK aV) (Tb : ∀ x ∈ c.exceptionTable.toList, False) (X : gX D (xcell g cI cB cZ cQ) xord g S s H locs) (hl : lv_has ls 6 [(0, .ref (g 0))]) (hF : fX11_years_b119 N S = some o) : W p l e (rmx 7 2) s m args below meth c H locs 2 12 (gEX below args s D (xtys cI cB cZ cQ) (xcell g cI cB cZ cQ) xord g 2 false o) (F0 m 119 ls []) := by
  unfold fX11_years_b119 at hF
  refine lv_aload_n C.1.1 C.1.2.1 dX11_years_119 rfl (lv_at hl 0 rfl) ?_
  refine xg_X11_29 C O.1.1 X (k := 0) rfl (j := 46) rfl dX11_years_120 ?_
  refine lv_aload_n C.1.1 C.1.2.1 dX11_years_123 rfl (lv_at hl 0 rfl) ?_
  obtain ⟨T1, eT1, hF⟩ := lt_some hF
  have hk_T1 := xtw_k eT1
  refine xg_X11_57 C O.1.1 X (T := T1) eT1 (k := 0) rfl dX11_years_124 ?_
  obtain ⟨q1, hq1, hF⟩ := bnd_some hF
  refine x_callVi C X (k := 46) xv_X11_124 (rfl : xk 46 = 7) rfl rfl (by decide) (kX7_hiredBits O.1.1 C.2.2.2.2.1 N 46 T1 (rfl : xk 46 = 7) (hk_T1 : xk T1 = 9) S q1 hq1) (Nat.le_of_ble_eq_true rfl) (Nat.le_of_ble_eq_true rfl) (Nat.le_of_ble_eq_true rfl) (Nat.le_of_ble_eq_true rfl) rfl hl.1 rfl (Nat.le_of_ble_eq_true rfl) dX11_years_127 (fun H locs X => ?_)
  obtain ⟨q2, hq2, hF⟩ := bnd_some hF
  refine g_callOi C X xv_X11_271 (kJ6_bitCount_0f7a4 (xs_sO O.1) C.2.2.2.2.1 N q1.1 q1.2 q2 hq2) (Nat.le_of_ble_eq_true rfl) (Nat.le_of_ble_eq_true rfl) (Nat.le_of_ble_eq_true rfl) (Nat.le_of_ble_eq_true rfl) rfl hl.1 rfl (Nat.le_of_ble_eq_true rfl) dX11_years_130 (fun H locs X => ?_)
  cases hF
  exact t_iret C X (by decide) (by decide) dX11_years_133
noncomputable def fX11_years_b107 (N : Nat) (S : gS) : Option (tR) := lt (xtw S) fun T1 => (bnd (fX7_purses N 46 T1 S) fun q1 => (some (0, q1.1, q1.2)))
theorem bX11_years_107 {N : Nat} {S : gS} {H : Heap} {locs : List Loc} {ls : Array Slot} {o : tR} (C : gC p s m args meth c cX11_years 6 RX11 ((some .int)) D (xtys cI cB cZ cQ) xord g Am) (O : tO l g cI cB cZ cQ Am aK aV) (Tb : ∀ x ∈ c.exceptionTable.toList, False) (X : gX D (xcell g cI cB cZ cQ) xord g S s H locs) (hl : lv_has ls 6 [(0, .ref (g 0))]) (hF : fX11_years_b107 N S = some o) : W p l e (rmx 7 2) s m args below meth c H locs 2 12 (gEX below args s D (xtys cI cB cZ cQ) (xcell g cI cB cZ cQ) xord g 2 false o) (F0 m 107 ls []) := by
  unfold fX11_years_b107 at hF
  refine lv_aload_n C.1.1 C.1.2.1 dX11_years_107 rfl (lv_at hl 0 rfl) ?_
  refine xg_X11_29 C O.1.1 X (k := 0) rfl (j := 46) rfl dX11_years_108 ?_
  refine lv_aload_n C.1.1 C.1.2.1 dX11_years_111 rfl (lv_at hl 0 rfl) ?_
  obtain ⟨T1, eT1, hF⟩ := lt_some hF
  have hk_T1 := xtw_k eT1
  refine xg_X11_57 C O.1.1 X (T := T1) eT1 (k := 0) rfl dX11_years_112 ?_
  obtain ⟨q1, hq1, hF⟩ := bnd_some hF
  refine x_callVi C X (k := 46) xv_X11_131 (rfl : xk 46 = 7) rfl rfl (by decide) (kX7_purses O.1.1 C.2.2.2.2.1 N 46 T1 (rfl : xk 46 = 7) (hk_T1 : xk T1 = 9) S q1 hq1) (Nat.le_of_ble_eq_true rfl) (Nat.le_of_ble_eq_true rfl) (Nat.le_of_ble_eq_true rfl) (Nat.le_of_ble_eq_true rfl) rfl hl.1 rfl (Nat.le_of_ble_eq_true rfl) dX11_years_115 (fun H locs X => ?_)
  cases hF
  exact t_iret C X (by decide) (by decide) dX11_years_118
noncomputable def fX11_years_b104 (N : Nat) (x4 : Int32) (S : gS) : Option (tR) := some (0, x4, S)
theorem bX11_years_104 {N : Nat} {x4 : Int32} {S : gS} {H : Heap} {locs : List Loc} {ls : Array Slot} {o : tR} (C : gC p s m args meth c cX11_years 6 RX11 ((some .int)) D (xtys cI cB cZ cQ) xord g Am) (O : tO l g cI cB cZ cQ Am aK aV) (Tb : ∀ x ∈ c.exceptionTable.toList, False) (X : gX D (xcell g cI cB cZ cQ) xord g S s H locs) (hl : lv_has ls 6 [(4, .int x4)]) (hF : fX11_years_b104 N x4 S = some o) : W p l e (rmx 7 2) s m args below meth c H locs 2 12 (gEX below args s D (xtys cI cB cZ cQ) (xcell g cI cB cZ cQ) xord g 2 false o) (F0 m 104 ls []) := by
  unfold fX11_years_b104 at hF
  refine lv_iload C.1.1 C.1.2.1 dX11_years_104 (lv_at hl 0 rfl) ?_
  cases hF
  exact t_iret C X (by decide) (by decide) dX11_years_106
noncomputable def fX11_years_b77 (N : Nat) (x3 : Int32) (x4 : Int32) (S : gS) : Option (tR) := if x3 = 0 then fX11_years_b104 N x4 S else if x3 = 1 then fX11_years_b107 N S else fX11_years_b119 N S
theorem bX11_years_77 {N : Nat} {x3 : Int32} {x4 : Int32} {S : gS} {H : Heap} {locs : List Loc} {ls : Array Slot} {o : tR} (C : gC p s m args meth c cX11_years 6 RX11 ((some .int)) D (xtys cI cB cZ cQ) xord g Am) (O : tO l g cI cB cZ cQ Am aK aV) (Tb : ∀ x ∈ c.exceptionTable.toList, False) (X : gX D (xcell g cI cB cZ cQ) xord g S s H locs) (hl : lv_has ls 6 [(0, .ref (g 0)), (3, .int x3), (4, .int x4)]) (hF : fX11_years_b77 N x3 x4 S = some o) : W p l e (rmx 7 2) s m args below meth c H locs 2 12 (gEX below args s D (xtys cI cB cZ cQ) (xcell g cI cB cZ cQ) xord g 2 false o) (F0 m 77 ls []) := by
  unfold fX11_years_b77 at hF
  refine lv_iload_n C.1.1 C.1.2.1 dX11_years_77 rfl (lv_at hl 1 rfl) ?_
  by_cases hz_0 : x3 = 0
  · rw [if_pos hz_0] at hF
    refine lv_lookup (off := 26) (tgt := 104) C.1.1 C.1.2.1 dX11_years_78 (by decide) (by rw [hz_0]; decide) (by decide) ?_
    exact bX11_years_104 C O Tb X (lv_sub hl [2] rfl) hF
  rw [if_neg hz_0] at hF
  by_cases hz_1 : x3 = 1
  · rw [if_pos hz_1] at hF
    refine lv_lookup (off := 29) (tgt := 107) C.1.1 C.1.2.1 dX11_years_78 (by decide) (by rw [hz_1]; decide) (by decide) ?_
    exact bX11_years_107 C O Tb X (lv_sub hl [0] rfl) hF
  rw [if_neg hz_1] at hF
  refine lv_lookup (off := 41) (tgt := 119) C.1.1 C.1.2.1 dX11_years_78 (by decide) (g_lsw2 hz_0 hz_1) (by decide) ?_
  exact bX11_years_119 C O Tb X (lv_sub hl [0] rfl) hF
noncomputable def fX11_years_b43 (N : Nat) (r37 : Int32 → Int32 → Int32 → Int32 → gS → Option (tR)) (x2 : Int32) (x3 : Int32) (x4 : Int32) (x5 : Int32) (S : gS) : Option (tR) := bnd (fX11_draw N 7 S) fun q1 => (bnd (fX11_chance N q1.1 q1.2) fun q2 => (bnd (fX11_draw N 4 q2.2) fun q3 => (bnd (fX11_passHour N 46 q3.1 q3.2) fun q4 => (r37 x2 x3 ((x4 + q4.1 : Int32)) ((x5 + 1 : Int32)) q4.2))))
theorem bX11_years_43 {N : Nat} {r37 : Int32 → Int32 → Int32 → Int32 → gS → Option (tR)} {x2 : Int32} {x3 : Int32} {x4 : Int32} {x5 : Int32} {S : gS} {H : Heap} {locs : List Loc} {ls : Array Slot} {o : tR} (C : gC p s m args meth c cX11_years 6 RX11 ((some .int)) D (xtys cI cB cZ cQ) xord g Am) (O : tO l g cI cB cZ cQ Am aK aV) (Tb : ∀ x ∈ c.exceptionTable.toList, False) (K37 : ∀ (x2 : Int32) (x3 : Int32) (x4 : Int32) (x5 : Int32) (S : gS) (H : Heap) (locs : List Loc) (ls : Array Slot), gX D (xcell g cI cB cZ cQ) xord g S s H locs → lv_has ls 6 [(0, .ref (g 0)), (2, .int x2), (3, .int x3), (4, .int x4), (5, .int x5)] → r37 x2 x3 x4 x5 S = some o → W p l e (rmx 7 2) s m args below meth c H locs 2 12 (gEX below args s D (xtys cI cB cZ cQ) (xcell g cI cB cZ cQ) xord g 2 false o) (F0 m 37 ls [])) (X : gX D (xcell g cI cB cZ cQ) xord g S s H locs) (hl : lv_has ls 6 [(0, .ref (g 0)), (2, .int x2), (3, .int x3), (4, .int x4), (5, .int x5)]) (hF : fX11_years_b43 N r37 x2 x3 x4 x5 S = some o) : W p l e (rmx 7 2) s m args below meth c H locs 2 12 (gEX below args s D (xtys cI cB cZ cQ) (xcell g cI cB cZ cQ) xord g 2 false o) (F0 m 43 ls []) := by
  unfold fX11_years_b43 at hF
  refine lv_aload_n C.1.1 C.1.2.1 dX11_years_43 rfl (lv_at hl 0 rfl) ?_
  refine lv_aload_n C.1.1 C.1.2.1 dX11_years_44 rfl (lv_at hl 0 rfl) ?_
  refine lv_bipush (v := 7) C.1.1 C.1.2.1 dX11_years_45 (by decide) ?_
  obtain ⟨q1, hq1, hF⟩ := bnd_some hF
  refine x_callVi C X (k := 0) xv_X11_357 (rfl : xk 0 = 11) rfl rfl (by decide) (kX11_draw O.1.1 C.2.2.2.2.1 N 7 S q1 hq1) (Nat.le_of_ble_eq_true rfl) (Nat.le_of_ble_eq_true rfl) (Nat.le_of_ble_eq_true rfl) (Nat.le_of_ble_eq_true rfl) rfl hl.1 rfl (Nat.le_of_ble_eq_true rfl) dX11_years_47 (fun H locs X => ?_)
  obtain ⟨q2, hq2, hF⟩ := bnd_some hF
  refine x_callV C X (k := 0) xv_X11_360 (rfl : xk 0 = 11) rfl rfl (by decide) (kX11_chance O.1.1 C.2.2.2.2.1 N q1.1 q1.2 q2 hq2) (Nat.le_of_ble_eq_true rfl) (Nat.le_of_ble_eq_true rfl) (Nat.le_of_ble_eq_true rfl) (Nat.le_of_ble_eq_true rfl) rfl hl.1 rfl (Nat.le_of_ble_eq_true rfl) dX11_years_50 (fun H locs X => ?_)
  refine lv_iload C.1.1 C.1.2.1 dX11_years_53 (lv_at hl 3 rfl) ?_
  refine lv_aload_n C.1.1 C.1.2.1 dX11_years_55 rfl (lv_at hl 0 rfl) ?_
  refine lv_aload_n C.1.1 C.1.2.1 dX11_years_56 rfl (lv_at hl 0 rfl) ?_
  refine xg_X11_29 C O.1.1 X (k := 0) rfl (j := 46) rfl dX11_years_57 ?_
  refine lv_aload_n C.1.1 C.1.2.1 dX11_years_60 rfl (lv_at hl 0 rfl) ?_
  refine lv_iconst (v := 4) C.1.1 C.1.2.1 dX11_years_61 (by decide) ?_
  obtain ⟨q3, hq3, hF⟩ := bnd_some hF
  refine x_callVi C X (k := 0) xv_X11_357 (rfl : xk 0 = 11) rfl rfl (by decide) (kX11_draw O.1.1 C.2.2.2.2.1 N 4 q2.2 q3 hq3) (Nat.le_of_ble_eq_true rfl) (Nat.le_of_ble_eq_true rfl) (Nat.le_of_ble_eq_true rfl) (Nat.le_of_ble_eq_true rfl) rfl hl.1 rfl (Nat.le_of_ble_eq_true rfl) dX11_years_62 (fun H locs X => ?_)
  obtain ⟨q4, hq4, hF⟩ := bnd_some hF
  refine x_callVi C X (k := 0) xv_X11_221 (rfl : xk 0 = 11) rfl rfl (by decide) (kX11_passHour O.1.1 C.2.2.2.2.1 N 46 q3.1 (rfl : xk 46 = 7) q3.2 q4 hq4) (Nat.le_of_ble_eq_true rfl) (Nat.le_of_ble_eq_true rfl) (Nat.le_of_ble_eq_true rfl) (Nat.le_of_ble_eq_true rfl) rfl hl.1 rfl (Nat.le_of_ble_eq_true rfl) dX11_years_65 (fun H locs X => ?_)
  refine lv_iadd C.1.1 C.1.2.1 dX11_years_68 ?_
  refine lv_istore (lv' := [(4, .int ((x4 + q4.1 : Int32))), (0, .ref (g 0)), (2, .int x2), (3, .int x3), (5, .int x5)]) C.1.1 C.1.2.1 dX11_years_69 hl (by decide) rfl (fun ls hl => ?_)
  refine lv_iinc (v := (x5 + 1 : Int32)) (lv' := [(5, .int ((x5 + 1 : Int32))), (4, .int ((x4 + q4.1 : Int32))), (0, .ref (g 0)), (2, .int x2), (3, .int x3)]) C.1.1 C.1.2.1 dX11_years_71 hl (k := 4) rfl rfl (by decide) rfl (fun ls hl => ?_)
  refine lv_goto (tgt := 37) C.1.1 C.1.2.1 dX11_years_74 (by decide) ?_
  exact K37 _ _ _ _ _ _ _ _ X (lv_sub hl [2, 3, 4, 1, 0] rfl) hF
noncomputable def fX11_years_b37 (N : Nat) (r37 : Int32 → Int32 → Int32 → Int32 → gS → Option (tR)) (x2 : Int32) (x3 : Int32) (x4 : Int32) (x5 : Int32) (S : gS) : Option (tR) := if x2 ≤ x5 then fX11_years_b77 N x3 x4 S else fX11_years_b43 N r37 x2 x3 x4 x5 S
theorem bX11_years_37 {N : Nat} {r37 : Int32 → Int32 → Int32 → Int32 → gS → Option (tR)} {x2 : Int32} {x3 : Int32} {x4 : Int32} {x5 : Int32} {S : gS} {H : Heap} {locs : List Loc} {ls : Array Slot} {o : tR} (C : gC p s m args meth c cX11_years 6 RX11 ((some .int)) D (xtys cI cB cZ cQ) xord g Am) (O : tO l g cI cB cZ cQ Am aK aV) (Tb : ∀ x ∈ c.exceptionTable.toList, False) (K37 : ∀ (x2 : Int32) (x3 : Int32) (x4 : Int32) (x5 : Int32) (S : gS) (H : Heap) (locs : List Loc) (ls : Array Slot), gX D (xcell g cI cB cZ cQ) xord g S s H locs → lv_has ls 6 [(0, .ref (g 0)), (2, .int x2), (3, .int x3), (4, .int x4), (5, .int x5)] → r37 x2 x3 x4 x5 S = some o → W p l e (rmx 7 2) s m args below meth c H locs 2 12 (gEX below args s D (xtys cI cB cZ cQ) (xcell g cI cB cZ cQ) xord g 2 false o) (F0 m 37 ls [])) (X : gX D (xcell g cI cB cZ cQ) xord g S s H locs) (hl : lv_has ls 6 [(0, .ref (g 0)), (2, .int x2), (3, .int x3), (4, .int x4), (5, .int x5)]) (hF : fX11_years_b37 N r37 x2 x3 x4 x5 S = some o) : W p l e (rmx 7 2) s m args below meth c H locs 2 12 (gEX below args s D (xtys cI cB cZ cQ) (xcell g cI cB cZ cQ) xord g 2 false o) (F0 m 37 ls []) := by
  unfold fX11_years_b37 at hF
  refine lv_iload C.1.1 C.1.2.1 dX11_years_37 (lv_at hl 4 rfl) ?_
  refine lv_iload_n C.1.1 C.1.2.1 dX11_years_39 rfl (lv_at hl 1 rfl) ?_
  refine lv_icmp_ge (tgt := 77) C.1.1 C.1.2.1 dX11_years_40 (by decide) (fun h_z => ?_) (fun h_z => ?_)
  · rw [if_pos h_z] at hF
    exact bX11_years_77 C O Tb X (lv_sub hl [0, 2, 3] rfl) hF
  · rw [if_neg h_z] at hF
    exact bX11_years_43 C O Tb K37 X (lv_sub hl [0, 1, 2, 3, 4] rfl) hF
noncomputable def fX11_years_h37 (N : Nat) : Nat → Int32 → Int32 → Int32 → Int32 → gS → Option (tR)
  | 0, _, _, _, _, _ => none
  | n + 1, x2, x3, x4, x5, S => fX11_years_b37 N (fX11_years_h37 N n) x2 x3 x4 x5 S
theorem hX11_years_37 {N : Nat} {o : tR} (C : gC p s m args meth c cX11_years 6 RX11 ((some .int)) D (xtys cI cB cZ cQ) xord g Am) (O : tO l g cI cB cZ cQ Am aK aV) (Tb : ∀ x ∈ c.exceptionTable.toList, False) : ∀ (n : Nat) (x2 : Int32) (x3 : Int32) (x4 : Int32) (x5 : Int32) (S : gS) (H : Heap) (locs : List Loc) (ls : Array Slot), gX D (xcell g cI cB cZ cQ) xord g S s H locs → lv_has ls 6 [(0, .ref (g 0)), (2, .int x2), (3, .int x3), (4, .int x4), (5, .int x5)] → fX11_years_h37 N n x2 x3 x4 x5 S = some o → W p l e (rmx 7 2) s m args below meth c H locs 2 12 (gEX below args s D (xtys cI cB cZ cQ) (xcell g cI cB cZ cQ) xord g 2 false o) (F0 m 37 ls []) := by
  intro n
  induction n with
  | zero =>
    intro x2 x3 x4 x5 S H locs ls X hl hF
    exact absurd (show (none : Option (tR)) = some o from hF) (by simp)
  | succ n ih =>
    intro x2 x3 x4 x5 S H locs ls X hl hF
    have hF : fX11_years_b37 N (fX11_years_h37 N n) x2 x3 x4 x5 S = some o := hF
    exact bX11_years_37 C O Tb ih X hl hF
noncomputable def fX11_years_b0 (N : Nat) (x1 : Int32) (x2 : Int32) (x3 : Int32) (S : gS) : Option (tR) := bnx (fX11_needWhat N x3 2 S) fun q1 => (bnx (fX11_needWithin N x2 0 60 q1.2.2) fun q2 => (bnd (fX7_copy N 46 21 q2.2.2) fun q3 => (lt (sU q3.2 0 9 x1) fun S1 => (fX11_years_h37 N N x2 x3 0 0 S1))))
theorem bX11_years_0 {N : Nat} {x1 : Int32} {x2 : Int32} {x3 : Int32} {S : gS} {H : Heap} {locs : List Loc} {ls : Array Slot} {o : tR} (C : gC p s m args meth c cX11_years 6 RX11 ((some .int)) D (xtys cI cB cZ cQ) xord g Am) (O : tO l g cI cB cZ cQ Am aK aV) (Tb : ∀ x ∈ c.exceptionTable.toList, False) (X : gX D (xcell g cI cB cZ cQ) xord g S s H locs) (hl : lv_has ls 6 [(0, .ref (g 0)), (1, .int x1), (2, .int x2), (3, .int x3)]) (hF : fX11_years_b0 N x1 x2 x3 S = some o) : W p l e (rmx 7 2) s m args below meth c H locs 0 0 (gEX below args s D (xtys cI cB cZ cQ) (xcell g cI cB cZ cQ) xord g 2 false o) (F0 m 0 ls []) := by
  unfold fX11_years_b0 at hF
  refine lv_iload_n C.1.1 C.1.2.1 dX11_years_0 rfl (lv_at hl 3 rfl) ?_
  refine lv_iconst (v := 2) C.1.1 C.1.2.1 dX11_years_1 (by decide) ?_
  rcases (bnx_some hF).symm with ⟨q1, hq1, zq1, eo⟩ | ⟨q1, hq1, zq1, hF⟩
  · subst eo
    exact t_thr (t_preS C X xv_X11_236 (kX11_needWhat O C.2.2.2.2.1 N x3 2 S q1 hq1) (Nat.le_of_ble_eq_true rfl) (Nat.le_of_ble_eq_true rfl) (Nat.le_of_ble_eq_true rfl) (Nat.le_of_ble_eq_true rfl) rfl hl.1 rfl (Nat.le_of_ble_eq_true rfl) dX11_years_2) zq1 C Tb X (by decide) (by decide)
  refine t_okv (t_preS C X xv_X11_236 (kX11_needWhat O C.2.2.2.2.1 N x3 2 S q1 hq1) (Nat.le_of_ble_eq_true rfl) (Nat.le_of_ble_eq_true rfl) (Nat.le_of_ble_eq_true rfl) (Nat.le_of_ble_eq_true rfl) rfl hl.1 rfl (Nat.le_of_ble_eq_true rfl) dX11_years_2) zq1 X (fun H locs X => ?_)
  refine W.widen (k := 1) (n := 6) (by decide) (by decide) ?_
  refine lv_iload_n C.1.1 C.1.2.1 dX11_years_5 rfl (lv_at hl 2 rfl) ?_
  refine lv_iconst (v := 0) C.1.1 C.1.2.1 dX11_years_6 (by decide) ?_
  refine lv_bipush (v := 60) C.1.1 C.1.2.1 dX11_years_7 (by decide) ?_
  rcases (bnx_some hF).symm with ⟨q2, hq2, zq2, eo⟩ | ⟨q2, hq2, zq2, hF⟩
  · subst eo
    exact t_thr (t_preS C X xv_X11_239 (kX11_needWithin O C.2.2.2.2.1 N x2 0 60 q1.2.2 q2 hq2) (Nat.le_of_ble_eq_true rfl) (Nat.le_of_ble_eq_true rfl) (Nat.le_of_ble_eq_true rfl) (Nat.le_of_ble_eq_true rfl) rfl hl.1 rfl (Nat.le_of_ble_eq_true rfl) dX11_years_9) zq2 C Tb X (by decide) (by decide)
  refine t_okv (t_preS C X xv_X11_239 (kX11_needWithin O C.2.2.2.2.1 N x2 0 60 q1.2.2 q2 hq2) (Nat.le_of_ble_eq_true rfl) (Nat.le_of_ble_eq_true rfl) (Nat.le_of_ble_eq_true rfl) (Nat.le_of_ble_eq_true rfl) rfl hl.1 rfl (Nat.le_of_ble_eq_true rfl) dX11_years_9) zq2 X (fun H locs X => ?_)
  refine W.widen (k := 2) (n := 12) (by decide) (by decide) ?_
  refine lv_aload_n C.1.1 C.1.2.1 dX11_years_12 rfl (lv_at hl 0 rfl) ?_
  refine xg_X11_29 C O.1.1 X (k := 0) rfl (j := 46) rfl dX11_years_13 ?_
  refine lv_aload_n C.1.1 C.1.2.1 dX11_years_16 rfl (lv_at hl 0 rfl) ?_
  refine xg_X11_19 C O.1.1 X (k := 0) rfl (j := 20) rfl dX11_years_17 ?_
  refine xg_X11_105 C O.1.1 X (k := 20) rfl (j := 21) rfl dX11_years_20 ?_
  obtain ⟨q3, hq3, hF⟩ := bnd_some hF
  refine x_callV C X (k := 46) xv_X11_353 (rfl : xk 46 = 7) rfl rfl (by decide) (kX7_copy O.1.1 C.2.2.2.2.1 N 46 21 (rfl : xk 46 = 7) (rfl : xk 21 = 7) q2.2.2 q3 hq3) (Nat.le_of_ble_eq_true rfl) (Nat.le_of_ble_eq_true rfl) (Nat.le_of_ble_eq_true rfl) (Nat.le_of_ble_eq_true rfl) rfl hl.1 rfl (Nat.le_of_ble_eq_true rfl) dX11_years_23 (fun H locs X => ?_)
  refine lv_aload_n C.1.1 C.1.2.1 dX11_years_26 rfl (lv_at hl 0 rfl) ?_
  refine lv_iload_n C.1.1 C.1.2.1 dX11_years_27 rfl (lv_at hl 1 rfl) ?_
  obtain ⟨S1, eS1, hF⟩ := lt_some hF
  refine xp_X11_65 C O.1.1 X (k := 0) rfl eS1 dX11_years_28 (fun H locs X => ?_)
  refine lv_iconst (v := 0) C.1.1 C.1.2.1 dX11_years_31 (by decide) ?_
  refine lv_istore (lv' := [(4, .int 0), (0, .ref (g 0)), (1, .int x1), (2, .int x2), (3, .int x3)]) C.1.1 C.1.2.1 dX11_years_32 hl (by decide) rfl (fun ls hl => ?_)
  refine lv_iconst (v := 0) C.1.1 C.1.2.1 dX11_years_34 (by decide) ?_
  refine lv_istore (lv' := [(5, .int 0), (4, .int 0), (0, .ref (g 0)), (1, .int x1), (2, .int x2), (3, .int x3)]) C.1.1 C.1.2.1 dX11_years_35 hl (by decide) rfl (fun ls hl => ?_)
  exact hX11_years_37 C O Tb N _ _ _ _ _ _ _ _ X (lv_sub hl [2, 4, 5, 1, 0] rfl) hF
noncomputable def fX11_years (N : Nat) (x1 : Int32) (x2 : Int32) (x3 : Int32) (S : gS) : Option (tR) := fX11_years_b0 N x1 x2 x3 S
theorem kX11_years {l : Launch} {D : va_G} {g : Nat → Nat} {cI cB cZ cQ : ClassId} {Am : (Nat → Prop) → State → Heap → Prop} {aK aV : Nat → Nat} (O : tO l g cI cB cZ cQ Am aK aV) (P : gAm Am) (N : Nat) (x1 : Int32) (x2 : Int32) (x3 : Int32) (S : gS) (o : tR) (hF : fX11_years N x1 x2 x3 S = some o) : gN l yX11_years cX11_years 6 ((some .int)) 7 2 D (xtys cI cB cZ cQ) (xcell g cI cB cZ cQ) xord g Am [.ref (g 0), .int x1, .int x2, .int x3] S false o :=
  gN_of P (by decide) (Nat.le_of_ble_eq_true rfl) (fun p e s m args below meth c ls C Tb X hl => bX11_years_0 C O Tb X (lv_sub hl [0, 1, 2, 3] rfl) hF)
end
end

/-! part 19.actor -/
section
/-! CONSTRUCTORS: from one fresh object to its block of the world -/
noncomputable def xS0 : gS := fun i => match i with
  | 1 => fun j => if j = 3 then (-1) else 0
  | 17 => fun j => if j = 2 then 1 else 0
  | 85 => fun j => if j = 2 then 1 else 0
  | 51 => fun j => if j = 4 then (-1) else 0
  | 62 => fun j => if j = 4 then (-1) else if j = 5 then 1 else 0
  | _ => fun _ => 0
/-- the cells of the nodes lo .. lo + n - 1, as a constructor leaves them -/
noncomputable def xb (cI cB cZ cQ : ClassId) (g : Nat → Nat) (lo n : Nat) : va_W := (List.range' lo n).map (xcell g cI cB cZ cQ xS0)
/-- addresses: below lo by h, from lo on by u -/
noncomputable def xj (h : Nat → Nat) (lo : Nat) (u : Nat → Nat) : Nat → Nat := fun i => if i < lo then h i else u i
noncomputable def rmc (d mc ms : Nat) : Room := { frames := d, cells := mc, slots := ms, locals := 40 * d + 13 }
def cP (D : va_G) (tys : List (ClassId × FieldType)) (av : List Value) (w0 : va_W) (sz : Nat) : Array Value → State → Prop :=
  va_Pc av (fun U => U.heap.size = sz ∧ va_P D vwCl w0 U.heap ∧ va_K D vwCl tys U ∧ va_D (fun _ => True) w0 ∧ (∀ w ∈ xNest, va_Nw w U) ∧ va_AOA .int U)
def cB (D : va_G) (tys : List (ClassId × FieldType)) (A : Nat → Prop) (b h0 : Nat) (ws : (Nat → Nat) → va_W) (u : Nat → Nat) (t : State) : Prop := u b = h0 ∧ va_P D vwCl (ws u) t.heap ∧ va_K D vwCl tys t ∧ va_D A (ws u)
def cM (l : Launch) (y : MethodName) (cy : ByteArray) (mL d mc ms : Nat) (D : va_G) (tys : List (ClassId × FieldType)) (av : List Value) (w0 : va_W) (b h0 : Nat) (ws : (Nat → Nat) → va_W) : Prop :=
  ∀ sz : Nat, Met l y (Cond.code y cy mL none :: gT) (rmc d mc ms) (cP D tys av w0 sz) (va_Qv (fun _ : Nat → Nat => True) (cB D tys (va_A w0 sz) b h0 ws) (va_A w0 sz)) mc ms (va_A w0 sz)
theorem xNest_warm {s U : State} (hW : s.WarmedH U.vm) (h : ∀ w ∈ xNest, va_Nw w s) : ∀ w ∈ xNest, va_Nw w U := by
  intro w hw
  have h1 := h w hw
  have h2 : (xNest.all (fun w => match w with
      | .fieldLinkNest .. => true
      | .methodLinkNest .. => true
      | _ => false)) = true := by decide +kernel
  have h3 := List.all_eq_true.mp h2 w hw
  cases w <;> first | exact va_Nw.warmF hW h1 | exact va_Nw.warmM hW h1 | exact absurd h3 (by simp)
theorem aoa_spec {t : FieldType} {u : State} (h : va_AOA t u) : ∃ comp c k, u.vm.findClass (FieldType.array t).toString = some comp ∧ (u.vm.classes.findIdx? fun (x : Class) => match x.kind with | .array component _ => component == comp | _ => false) = some c ∧ u.vm.classes[c]? = some k ∧ k.kind = .array comp (.array t) ∧ u.vm.findClass ("[" ++ (FieldType.array t).toString) = some c := by
  unfold va_AOA Cond.before at h
  simp only [Cond.holds, Cond.value, beq_iff_eq] at h
  cases hc : u.vm.findClass (FieldType.array t).toString with
  | none => simp [hc] at h
  | some comp =>
    simp only [hc, Option.bind_some, Option.bind_eq_some_iff, Option.map_eq_some_iff] at h
    obtain ⟨c, hi, k, hk, hb⟩ := h
    obtain ⟨hlt, hp, -⟩ := Array.findIdx?_eq_some_iff_getElem.mp hi
    have hkk : u.vm.classes[c] = k := (Array.getElem?_eq_some_iff.mp hk).2
    rewrite [hkk] at hp
    cases hkind : k.kind with
    | array component ty =>
      rewrite [hkind] at hb hp
      simp at hb hp
      exact ⟨comp, c, k, rfl, hi, hk, by rw [hkind, hp, hb.1], hb.2⟩
    | _ => rewrite [hkind] at hb; simp at hb
theorem aoa_moved {t : FieldType} {u U : State} (hvm : u.vm.Alike U.vm) (h : va_AOA t u) : va_AOA t U := by
  obtain ⟨comp, c, k, h1, h2, h3, h4, h5⟩ := aoa_spec h
  obtain ⟨k', hk', he⟩ := hvm.2.2 _ _ h3
  have hi : (U.vm.classes.findIdx? fun (x : Class) => match x.kind with | .array component _ => component == comp | _ => false) = some c := by
    have hbe : U.vm.bare = u.vm.bare := by first | exact hvm.bare_eq | exact hvm.bare_eq.symm
    refine (va_idx_bare U.vm comp).symm.trans ?_
    rw [hbe]
    exact (va_idx_bare u.vm comp).trans h2
  have hkind : k'.kind = .array comp (.array t) := by rw [he]; exact h4
  have f1 : U.vm.findClass (FieldType.array t).toString = some comp := by rw [hvm.findClass]; exact h1
  have f2 : U.vm.findClass ("[" ++ (FieldType.array t).toString) = some c := by rw [hvm.findClass]; exact h5
  unfold va_AOA Cond.before Cond.holds
  simp only [Cond.value]
  rw [f1, Option.bind_some]
  refine (congrArg (fun o : Option Nat => (o.bind (fun c => (U.vm.classes[c]?).map fun (k : Class) => match k.kind with | .array _ ty => decide (ty = FieldType.array t) && decide (U.vm.findClass ("[" ++ (FieldType.array t).toString) = some c) | _ => false) == some true)) hi).trans ?_
  simp [hk', hkind, f2]
section CTOR
variable {p : Program} {l : Launch} {e : Env} {R : Room} {s : State} {m : MethodId} {args : Array Value} {below : List Frame} {meth : Method} {c : Code} {H H0 : Heap} {locs : List Loc} {cs sl : Nat} {Q : State → Prop} {A : Nat → Prop}
variable {cc : ByteArray} {pc : Nat} {D : va_G} {tys : List (ClassId × FieldType)} {ls : Array Slot} {rest : List Value} {ws : va_W}
theorem c_one {ty : FieldType} {c1 c2 : ClassId} (hn : ∀ C, ty ≠ .object C) (h1 : va_RA s c1 ty) (h2 : va_RA s c2 ty) : c1 = c2 := by
  cases ty with
  | object C => exact absurd rfl (hn C)
  | _ => exact Option.some.inj (h1.symm.trans h2)
/-- a new row of a kind whose class is known -/
theorem c_newa (hexec : p.tables.exec = Jvm.exec) (hb : c.code = cc) {atype : ArrayType} (harr : (Cond.arrayClass (newarray.typeOf atype)).before args s = true) {ty : FieldType} (hty : newarray.typeOf atype = ty) (hno : ∀ C, ty ≠ .object C) (hK : va_K D vwCl tys s) {t0 : Nat} {cT : ClassId} (ht : tys[t0]? = some (cT, ty)) (hP : va_P D vwCl ws H) (hD : va_D A ws) (hS : va_S A H0 H locs) (hA : ∀ q, H0.size ≤ q → A q)
    {n : Int32} {N' : Nat} {a0 : vp_A} (ha : ∀ cA : ClassId, vp_cell cA a0 = arrV cA N' (fun _ => defaultValue ty)) (hn : ¬ n < 0) (hN : n.toNatClampNeg = N') (hbytes : N' * componentBytes ty ≤ 536870912) (hcells : cs + 1 ≤ R.cells) (hslots : sl + N' ≤ R.slots) (hdg : decode cc pc = .ok (.newarray atype, 2))
    (kk : ∀ (q : Nat) (H1 : Heap), va_P D vwCl (ws ++ [(q, .inl (cT, a0))]) H1 → va_D A (ws ++ [(q, .inl (cT, a0))]) → va_S A H0 H1 locs → W p l e R s m args below meth c H1 locs (cs + 1) (sl + N') Q (F0 m (pc + 2) ls (.ref q :: rest))) : W p l e R s m args below meth c H locs cs sl Q (F0 m pc ls (.int n :: rest)) := by
  refine va_newa hexec hb harr hty hK hP hD hS hA ha hn hN hbytes hcells hslots hdg (fun q cA H1 hK1 hP1 hD1 hS1 => ?_)
  have h1 := (hK.2 t0 _ ht).2
  have h2 := (hK1.2 tys.length (cA, ty) (by rw [List.getElem?_append_right (Nat.le_refl _)]; simp)).2
  have e1 : cA = cT := c_one hno h2 h1
  subst e1
  exact kk q H1 hP1 hD1 hS1
/-- new int[N][K] -/
theorem c_mna (hexec : p.tables.exec = Jvm.exec) (hb : c.code = cc) {own : String} {index : Nat} (hown : s.vm.findClass own = some m.cls) (hclink : (Cond.classLink own index "[[I").before args s = true) (hAO : va_AOA .int s) (harr : (Cond.arrayClass .int).before args s = true) (hK : va_K D vwCl tys s) {cI cQ : ClassId} (ht0 : tys[0]? = some (cI, .int)) (ht3 : tys[3]? = some (cQ, .array .int))
    (hP : va_P D vwCl ws H) (hD : va_D A ws) (hS : va_S A H0 H locs) (hA : ∀ q, H0.size ≤ q → A q) {n k : Int32} {N' K' : Nat} (hn : ¬ n < 0) (hk : ¬ k < 0) (hN : n.toNatClampNeg = N') (hM : k.toNatClampNeg = K') (hb1 : N' * 4 ≤ 536870912) (hb2 : K' * componentBytes .int ≤ 536870912) (hb3 : K' ≤ 536870912) (hcells : cs + (1 + N') ≤ R.cells) (hslots : sl + (N' + N' * K') ≤ R.slots) (hdg : decode cc pc = .ok (.multianewarray index 2, 4))
    (kk : ∀ (q : Nat) (r : Nat → Nat) (H1 : Heap), va_P D vwCl ((ws ++ [(q, .inl (cQ, N', .inr (.inr (.inr (.inr (fun i => if i < N' then some (r i) else none))))))]) ++ (List.range N').map (fun i => (r i, .inl (cI, K', .inl (fun _ => 0))))) H1 → va_D A ((ws ++ [(q, .inl (cQ, N', .inr (.inr (.inr (.inr (fun i => if i < N' then some (r i) else none))))))]) ++ (List.range N').map (fun i => (r i, .inl (cI, K', .inl (fun _ => 0))))) → va_S A H0 H1 locs →
      W p l e R s m args below meth c H1 locs (cs + 1 + N') (sl + N' + N' * K') Q (F0 m (pc + 4) ls (.ref q :: rest))) : W p l e R s m args below meth c H locs cs sl Q (F0 m pc ls (.int k :: .int n :: rest)) := by
  have hP0 : va_P D vwCl (ws ++ va_pl [] (fun _ => (.inr (0, []) : va_E))) H := by
    show va_P D vwCl (ws ++ []) H
    rw [List.append_nil]
    exact hP
  have hD0 : va_D A (ws ++ va_pl [] (fun _ => (.inr (0, []) : va_E))) := by
    show va_D A (ws ++ [])
    rw [List.append_nil]
    exact hD
  refine va_mna (ty := .int) (cy := cI) (z := (K', .inl (fun _ => 0))) hexec hb hown hclink hAO harr (hK.2 0 _ ht0).2 hK hP0 hD0 hS hA hn hk hN hM hb1 hb2 hb3 rfl rfl hcells hslots (fun c0 => ?_) hdg (fun q r cA H1 hinj hnL hK1 hP1 hD1 hS1 => ?_)
  · show ({ cls := c0, slots := Array.replicate K' (.int 0), vm := .none } : Cell) = arrV c0 K' (fun _ => .int 0)
    rw [arrV_new]
  · have e1 : cA = cQ := c_one (fun _ h => by cases h) ((hK1.2 tys.length (cA, .array .int) (by rw [List.getElem?_append_right (Nat.le_refl _)]; simp)).2) (hK.2 3 _ ht3).2
    subst e1
    have hrows : va_pl ([] ++ (List.range N').map r) (vr_up (fun _ => (.inr (0, []) : va_E)) ((List.range N').map r) (.inl (cI, K', .inl (fun _ => 0)))) = (List.range N').map (fun i => (r i, (.inl (cI, K', .inl (fun _ => 0)) : va_E))) := by
      rw [← vr_rows (fun _ _ h => by cases h)]
      show [] ++ ((List.range N').map r).map _ = _
      rw [List.nil_append, List.map_map]
      rfl
    rewrite [hrows] at hP1 hD1
    exact kk q r H1 hP1 hD1 hS1
end CTOR
end

/-! part 19.ajoin -/
section
/-! the last cell cut off, and a block put in its place -/
section CJOIN
variable {D : va_G} {cl : List vw_C} {A : Nat → Prop} {wr wc w1 : va_W} {H H0 H1 : Heap} {locs : List Loc}
theorem c_idxR (wr wc : va_W) : (List.range' wr.length wc.length).map (fun i => (wr ++ wc)[i]?) = wc.map some := by
  apply List.ext_getElem?
  intro i
  rw [List.getElem?_map, List.getElem?_map]
  by_cases h : i < wc.length
  · rw [List.getElem?_range' h, Option.map_some, List.getElem?_eq_getElem h, Option.map_some]
    congr 1
    rw [List.getElem?_append_right (by omega)]
    rw [show wr.length + 1 * i - wr.length = i by omega, List.getElem?_eq_getElem h]
  · rw [List.getElem?_eq_none (by rw [List.length_range']; omega), List.getElem?_eq_none (by omega)]
    rfl
theorem c_idxL (wr wc : va_W) : (List.range wr.length).map (fun i => (wr ++ wc)[i]?) = wr.map some := by
  apply List.ext_getElem?
  intro i
  rw [List.getElem?_map, List.getElem?_map]
  by_cases h : i < wr.length
  · rw [List.getElem?_range h, Option.map_some, List.getElem?_eq_getElem h, Option.map_some]
    congr 1
    rw [List.getElem?_append_left h, List.getElem?_eq_getElem h]
  · rw [List.getElem?_eq_none (by rw [List.length_range]; omega), List.getElem?_eq_none (by omega)]
    rfl
theorem c_right (h : va_P D cl (wr ++ wc) H) : va_P D cl wc H := fun k q hk => h (wr.length + k) q (by rw [List.getElem?_append_right (by omega), show wr.length + k - wr.length = k by omega]; exact hk)
theorem c_left (h : va_P D cl (wr ++ wc) H) : va_P D cl wr H := fun k q hk => h k q (by rw [List.getElem?_append_left (List.getElem?_eq_some_iff.mp hk).1]; exact hk)
theorem c_rightD (h : va_D A (wr ++ wc)) : va_D A wc :=
  ⟨fun i j p q hi hj e => by
    have := h.1 (wr.length + i) (wr.length + j) p q (by rw [List.getElem?_append_right (by omega), show wr.length + i - wr.length = i by omega]; exact hi) (by rw [List.getElem?_append_right (by omega), show wr.length + j - wr.length = j by omega]; exact hj) e
    omega, fun k q hk => h.2 (wr.length + k) q (by rw [List.getElem?_append_right (by omega), show wr.length + k - wr.length = k by omega]; exact hk)⟩
theorem c_free (hD : va_D A (wr ++ wc)) (hS : va_S A H0 H locs) (hA : ∀ q, H0.size ≤ q → A q) : ∀ q, va_A wc H.size q → A q := va_free (wc := wc) hD hS hA (List.range' wr.length wc.length) (c_idxR wr wc)
theorem c_nd : ∀ n k : Nat, va_nd (List.range' k n) = true := by
  intro n
  induction n with
  | zero => intro k; rfl
  | succ n ih =>
    intro k
    rw [List.range'_succ]
    simp only [va_nd, Bool.and_eq_true]
    refine ⟨?_, ih (k + 1)⟩
    simp
theorem c_join (hP : va_P D cl (wr ++ wc) H) (hD : va_D A (wr ++ wc)) (hk : ∀ q : Nat, q < H.size → ¬ va_A wc H.size q → H1[q]? = H[q]?) (hF : ∀ q, va_A wc H.size q → A q) (hP1 : va_P D cl w1 H1) (hD1 : va_D (va_A wc H.size) w1) : va_P D cl (wr ++ w1) H1 ∧ va_D A (wr ++ w1) :=
  va_join hP hD (List.range' wr.length wc.length) (List.range wr.length) (c_idxR wr wc) (c_idxL wr wc) (by rw [List.range_eq_range']; exact c_nd _ _) (fun i hi hc => by
    have h1 := List.mem_range.mp hi
    have h2 := List.mem_range'_1.mp hc
    omega) hk hF hP1 hD1
end CJOIN
end

/-! part 19.bcw -/
section
/-! the class's constructors (printed by wip/whole/genc.py) -/
theorem c_ob : Cond.instanceMethod objectInit ∈ gT ∧ Cond.code objectInit ⟨#[0xb1]⟩ 1 none ∈ gT := ⟨gT_c1 33 rfl rfl, gT_c1 34 rfl rfl⟩
theorem c_ac_int : Cond.arrayClass .int ∈ gT := gT_c1 100 rfl rfl
theorem c_ac_byte : Cond.arrayClass .byte ∈ gT := gT_c1 73 rfl rfl
theorem c_ac_boolean : Cond.arrayClass .boolean ∈ gT := gT_c1 101 rfl rfl
theorem c_df0 : ∀ j, j < 2 → defaultValue (tyX0 j) = vp_V [.null, .int 0] j := by
  intro j hj
  rcases (show j = 0 ∨ j = 1 by omega) with rfl | rfl <;> rfl
theorem c_oi0 : Cond.methodLink RX0 3 objectInit ∈ gT := gT_c2 12 rfl rfl
theorem c_is0 : Cond.instantiable RX0 2 ∈ gT ∧ Cond.initialized RX0 ∈ gT := ⟨gT_c2 8 rfl rfl, gT_c1 8 rfl rfl⟩
theorem c_cw0 : Cond.code yX0_init cX0_init 1 none ∈ gT ∧ Cond.instanceMethod yX0_init ∈ gT ∧ (yX0_init.cls ≠ "java/lang/invoke/MethodHandle" ∧ yX0_init.cls ≠ "java/lang/invoke/VarHandle" ∧ (parseMethodDescriptor yX0_init.desc).map (fun d => d.parameters.length) = some 0) := ⟨gT_c2 11 rfl rfl, gT_c2 10 rfl rfl, by decide +kernel, by decide +kernel, by decide +kernel⟩
theorem c_df1 : ∀ j, j < 4 → defaultValue (tyX1 j) = vp_V [.null, .null, .null, .null] j := by
  intro j hj
  rcases (show j = 0 ∨ j = 1 ∨ j = 2 ∨ j = 3 by omega) with rfl | rfl | rfl | rfl <;> rfl
theorem c_oi1 : Cond.methodLink RX1 3 objectInit ∈ gT := gT_c1 208 rfl rfl
theorem c_is1 : Cond.instantiable RX1 4 ∈ gT ∧ Cond.initialized RX1 ∈ gT := ⟨gT_c1 204 rfl rfl, gT_c1 6 rfl rfl⟩
theorem c_cl1_9 : Cond.classLink RX1 9 RX7 ∈ gT := gT_c1 209 rfl rfl
theorem c_cl1_18 : Cond.classLink RX1 18 RX0 ∈ gT := gT_c2 7 rfl rfl
theorem c_cl1_25 : Cond.classLink RX1 25 RX5 ∈ gT := gT_c2 22 rfl rfl
theorem c_cw1 : Cond.code yX1_init cX1_init 1 none ∈ gT ∧ Cond.instanceMethod yX1_init ∈ gT ∧ (yX1_init.cls ≠ "java/lang/invoke/MethodHandle" ∧ yX1_init.cls ≠ "java/lang/invoke/VarHandle" ∧ (parseMethodDescriptor yX1_init.desc).map (fun d => d.parameters.length) = some 0) := ⟨gT_c1 207 rfl rfl, gT_c1 206 rfl rfl, by decide +kernel, by decide +kernel, by decide +kernel⟩
theorem c_df2 : ∀ j, j < 6 → defaultValue (tyX2 j) = vp_V [.null, .null, .null, .int 0, .int 0, .int 0] j := by
  intro j hj
  rcases (show j = 0 ∨ j = 1 ∨ j = 2 ∨ j = 3 ∨ j = 4 ∨ j = 5 by omega) with rfl | rfl | rfl | rfl | rfl | rfl <;> rfl
theorem c_oi2 : Cond.methodLink RX2 3 objectInit ∈ gT := gT_c2 132 rfl rfl
theorem c_is2 : Cond.instantiable RX2 6 ∈ gT ∧ Cond.initialized RX2 ∈ gT := ⟨gT_c2 128 rfl rfl, gT_c1 12 rfl rfl⟩
theorem c_cw2 : Cond.code yX2_init cX2_init 1 none ∈ gT ∧ Cond.instanceMethod yX2_init ∈ gT ∧ (yX2_init.cls ≠ "java/lang/invoke/MethodHandle" ∧ yX2_init.cls ≠ "java/lang/invoke/VarHandle" ∧ (parseMethodDescriptor yX2_init.desc).map (fun d => d.parameters.length) = some 0) := ⟨gT_c2 131 rfl rfl, gT_c2 130 rfl rfl, by decide +kernel, by decide +kernel, by decide +kernel⟩
theorem c_df3 : ∀ j, j < 4 → defaultValue (tyX3 j) = vp_V [.null, .null, .int 0, .int 0] j := by
  intro j hj
  rcases (show j = 0 ∨ j = 1 ∨ j = 2 ∨ j = 3 by omega) with rfl | rfl | rfl | rfl <;> rfl
theorem c_oi3 : Cond.methodLink RX3 3 objectInit ∈ gT := gT_c1 40 rfl rfl
theorem c_is3 : Cond.instantiable RX3 4 ∈ gT ∧ Cond.initialized RX3 ∈ gT := ⟨gT_c1 36 rfl rfl, gT_c1 2 rfl rfl⟩
theorem c_cl3_9 : Cond.classLink RX3 9 RX8 ∈ gT := gT_c1 41 rfl rfl
theorem c_cl3_18 : Cond.classLink RX3 18 RX9 ∈ gT := gT_c1 74 rfl rfl
theorem c_cw3 : Cond.code yX3_init cX3_init 1 none ∈ gT ∧ Cond.instanceMethod yX3_init ∈ gT ∧ (yX3_init.cls ≠ "java/lang/invoke/MethodHandle" ∧ yX3_init.cls ≠ "java/lang/invoke/VarHandle" ∧ (parseMethodDescriptor yX3_init.desc).map (fun d => d.parameters.length) = some 0) := ⟨gT_c1 39 rfl rfl, gT_c1 38 rfl rfl, by decide +kernel, by decide +kernel, by decide +kernel⟩
theorem c_df4 : ∀ j, j < 4 → defaultValue (tyX4 j) = vp_V [.null, .null, .int 0, .int 0] j := by
  intro j hj
  rcases (show j = 0 ∨ j = 1 ∨ j = 2 ∨ j = 3 by omega) with rfl | rfl | rfl | rfl <;> rfl
theorem c_oi4 : Cond.methodLink RX4 3 objectInit ∈ gT := gT_c1 85 rfl rfl
theorem c_is4 : Cond.instantiable RX4 4 ∈ gT ∧ Cond.initialized RX4 ∈ gT := ⟨gT_c1 81 rfl rfl, gT_c1 5 rfl rfl⟩
theorem c_cw4 : Cond.code yX4_init cX4_init 2 none ∈ gT ∧ Cond.instanceMethod yX4_init ∈ gT ∧ (yX4_init.cls ≠ "java/lang/invoke/MethodHandle" ∧ yX4_init.cls ≠ "java/lang/invoke/VarHandle" ∧ (parseMethodDescriptor yX4_init.desc).map (fun d => d.parameters.length) = some 1) := ⟨gT_c1 84 rfl rfl, gT_c1 83 rfl rfl, by decide +kernel, by decide +kernel, by decide +kernel⟩
theorem c_df5 : ∀ j, j < 4 → defaultValue (tyX5 j) = vp_V [.null, .null, .null, .int 0] j := by
  intro j hj
  rcases (show j = 0 ∨ j = 1 ∨ j = 2 ∨ j = 3 by omega) with rfl | rfl | rfl | rfl <;> rfl
theorem c_oi5 : Cond.methodLink RX5 3 objectInit ∈ gT := gT_c2 27 rfl rfl
theorem c_is5 : Cond.instantiable RX5 4 ∈ gT ∧ Cond.initialized RX5 ∈ gT := ⟨gT_c2 23 rfl rfl, gT_c1 9 rfl rfl⟩
theorem c_cw5 : Cond.code yX5_init cX5_init 1 none ∈ gT ∧ Cond.instanceMethod yX5_init ∈ gT ∧ (yX5_init.cls ≠ "java/lang/invoke/MethodHandle" ∧ yX5_init.cls ≠ "java/lang/invoke/VarHandle" ∧ (parseMethodDescriptor yX5_init.desc).map (fun d => d.parameters.length) = some 0) := ⟨gT_c2 26 rfl rfl, gT_c2 25 rfl rfl, by decide +kernel, by decide +kernel, by decide +kernel⟩
theorem c_df6 : ∀ j, j < 4 → defaultValue (tyX6 j) = vp_V [.null, .null, .int 0, .int 0] j := by
  intro j hj
  rcases (show j = 0 ∨ j = 1 ∨ j = 2 ∨ j = 3 by omega) with rfl | rfl | rfl | rfl <;> rfl
theorem c_oi6 : Cond.methodLink RX6 3 objectInit ∈ gT := gT_c2 108 rfl rfl
theorem c_is6 : Cond.instantiable RX6 4 ∈ gT ∧ Cond.initialized RX6 ∈ gT := ⟨gT_c2 104 rfl rfl, gT_c1 11 rfl rfl⟩
theorem c_cw6 : Cond.code yX6_init cX6_init 1 none ∈ gT ∧ Cond.instanceMethod yX6_init ∈ gT ∧ (yX6_init.cls ≠ "java/lang/invoke/MethodHandle" ∧ yX6_init.cls ≠ "java/lang/invoke/VarHandle" ∧ (parseMethodDescriptor yX6_init.desc).map (fun d => d.parameters.length) = some 0) := ⟨gT_c2 107 rfl rfl, gT_c2 106 rfl rfl, by decide +kernel, by decide +kernel, by decide +kernel⟩
theorem c_df7 : ∀ j, j < 6 → defaultValue (tyX7 j) = vp_V [.int 0, .int 0, .null, .null, .null, .null] j := by
  intro j hj
  rcases (show j = 0 ∨ j = 1 ∨ j = 2 ∨ j = 3 ∨ j = 4 ∨ j = 5 by omega) with rfl | rfl | rfl | rfl | rfl | rfl <;> rfl
theorem c_oi7 : Cond.methodLink RX7 3 objectInit ∈ gT := gT_c1 214 rfl rfl
theorem c_is7 : Cond.instantiable RX7 6 ∈ gT ∧ Cond.initialized RX7 ∈ gT := ⟨gT_c1 210 rfl rfl, gT_c1 7 rfl rfl⟩
theorem c_cw7 : Cond.code yX7_init cX7_init 1 none ∈ gT ∧ Cond.instanceMethod yX7_init ∈ gT ∧ (yX7_init.cls ≠ "java/lang/invoke/MethodHandle" ∧ yX7_init.cls ≠ "java/lang/invoke/VarHandle" ∧ (parseMethodDescriptor yX7_init.desc).map (fun d => d.parameters.length) = some 0) := ⟨gT_c1 213 rfl rfl, gT_c1 212 rfl rfl, by decide +kernel, by decide +kernel, by decide +kernel⟩
theorem c_df8 : ∀ j, j < 7 → defaultValue (tyX8 j) = vp_V [.null, .int 0, .int 0, .int 0, .int 0, .int 0, .int 0] j := by
  intro j hj
  rcases (show j = 0 ∨ j = 1 ∨ j = 2 ∨ j = 3 ∨ j = 4 ∨ j = 5 ∨ j = 6 by omega) with rfl | rfl | rfl | rfl | rfl | rfl | rfl <;> rfl
theorem c_oi8 : Cond.methodLink RX8 3 objectInit ∈ gT := gT_c1 46 rfl rfl
theorem c_is8 : Cond.instantiable RX8 7 ∈ gT ∧ Cond.initialized RX8 ∈ gT := ⟨gT_c1 42 rfl rfl, gT_c1 3 rfl rfl⟩
theorem c_cw8 : Cond.code yX8_init cX8_init 1 none ∈ gT ∧ Cond.instanceMethod yX8_init ∈ gT ∧ (yX8_init.cls ≠ "java/lang/invoke/MethodHandle" ∧ yX8_init.cls ≠ "java/lang/invoke/VarHandle" ∧ (parseMethodDescriptor yX8_init.desc).map (fun d => d.parameters.length) = some 0) := ⟨gT_c1 45 rfl rfl, gT_c1 44 rfl rfl, by decide +kernel, by decide +kernel, by decide +kernel⟩
theorem c_df9 : ∀ j, j < 15 → defaultValue (tyX9 j) = vp_V [.int 0, .null, .null, .null, .null, .int 0, .null, .null, .null, .null, .int 0, .null, .int 0, .null, .null] j := by
  intro j hj
  rcases (show j = 0 ∨ j = 1 ∨ j = 2 ∨ j = 3 ∨ j = 4 ∨ j = 5 ∨ j = 6 ∨ j = 7 ∨ j = 8 ∨ j = 9 ∨ j = 10 ∨ j = 11 ∨ j = 12 ∨ j = 13 ∨ j = 14 by omega) with rfl | rfl | rfl | rfl | rfl | rfl | rfl | rfl | rfl | rfl | rfl | rfl | rfl | rfl | rfl <;> rfl
theorem c_oi9 : Cond.methodLink RX9 3 objectInit ∈ gT := gT_c1 79 rfl rfl
theorem c_is9 : Cond.instantiable RX9 15 ∈ gT ∧ Cond.initialized RX9 ∈ gT := ⟨gT_c1 75 rfl rfl, gT_c1 4 rfl rfl⟩
theorem c_cl9_53 : Cond.classLink RX9 53 RX4 ∈ gT := gT_c1 80 rfl rfl
theorem c_cw9 : Cond.code yX9_init cX9_init 1 none ∈ gT ∧ Cond.instanceMethod yX9_init ∈ gT ∧ (yX9_init.cls ≠ "java/lang/invoke/MethodHandle" ∧ yX9_init.cls ≠ "java/lang/invoke/VarHandle" ∧ (parseMethodDescriptor yX9_init.desc).map (fun d => d.parameters.length) = some 0) := ⟨gT_c1 78 rfl rfl, gT_c1 77 rfl rfl, by decide +kernel, by decide +kernel, by decide +kernel⟩
theorem c_df10 : ∀ j, j < 8 → defaultValue (tyX10 j) = vp_V [.int 0, .int 0, .int 0, .int 0, .int 0, .int 0, .int 0, .int 0] j := by
  intro j hj
  rcases (show j = 0 ∨ j = 1 ∨ j = 2 ∨ j = 3 ∨ j = 4 ∨ j = 5 ∨ j = 6 ∨ j = 7 by omega) with rfl | rfl | rfl | rfl | rfl | rfl | rfl | rfl <;> rfl
theorem c_oi10 : Cond.methodLink RX10 3 objectInit ∈ gT := gT_c2 69 rfl rfl
theorem c_is10 : Cond.instantiable RX10 8 ∈ gT ∧ Cond.initialized RX10 ∈ gT := ⟨gT_c2 65 rfl rfl, gT_c1 10 rfl rfl⟩
theorem c_cw10 : Cond.code yX10_init cX10_init 1 none ∈ gT ∧ Cond.instanceMethod yX10_init ∈ gT ∧ (yX10_init.cls ≠ "java/lang/invoke/MethodHandle" ∧ yX10_init.cls ≠ "java/lang/invoke/VarHandle" ∧ (parseMethodDescriptor yX10_init.desc).map (fun d => d.parameters.length) = some 0) := ⟨gT_c2 68 rfl rfl, gT_c2 67 rfl rfl, by decide +kernel, by decide +kernel, by decide +kernel⟩
theorem c_df11 : ∀ j, j < 10 → defaultValue (tyX11 j) = vp_V [.null, .null, .null, .null, .null, .null, .null, .null, .int 0, .int 0] j := by
  intro j hj
  rcases (show j = 0 ∨ j = 1 ∨ j = 2 ∨ j = 3 ∨ j = 4 ∨ j = 5 ∨ j = 6 ∨ j = 7 ∨ j = 8 ∨ j = 9 by omega) with rfl | rfl | rfl | rfl | rfl | rfl | rfl | rfl | rfl | rfl <;> rfl
theorem c_oi11 : Cond.methodLink RX11 3 objectInit ∈ gT := gT_c1 32 rfl rfl
theorem c_is11 : Cond.instantiable RX11 10 ∈ gT ∧ Cond.initialized RX11 ∈ gT := ⟨gT_c1 28 rfl rfl, gT_c1 1 rfl rfl⟩
theorem c_cl11_9 : Cond.classLink RX11 9 RX3 ∈ gT := gT_c1 35 rfl rfl
theorem c_cl11_16 : Cond.classLink RX11 16 RX1 ∈ gT := gT_c1 203 rfl rfl
theorem c_cl11_26 : Cond.classLink RX11 26 RX7 ∈ gT := gT_c2 62 rfl rfl
theorem c_cl11_33 : Cond.classLink RX11 33 RX10 ∈ gT := gT_c2 64 rfl rfl
theorem c_cl11_40 : Cond.classLink RX11 40 RX6 ∈ gT := gT_c2 103 rfl rfl
theorem c_cl11_47 : Cond.classLink RX11 47 RX2 ∈ gT := gT_c2 127 rfl rfl
theorem c_cl11_54 : Cond.classLink RX11 54 RX9 ∈ gT := gT_c2 156 rfl rfl
theorem c_cw11 : Cond.code yX11_init cX11_init 1 none ∈ gT ∧ Cond.instanceMethod yX11_init ∈ gT ∧ (yX11_init.cls ≠ "java/lang/invoke/MethodHandle" ∧ yX11_init.cls ≠ "java/lang/invoke/VarHandle" ∧ (parseMethodDescriptor yX11_init.desc).map (fun d => d.parameters.length) = some 0) := ⟨gT_c1 31 rfl rfl, gT_c1 30 rfl rfl, by decide +kernel, by decide +kernel, by decide +kernel⟩
theorem c_qq2 : Cond.classLink RX2 9 "[[I" ∈ gT := gT_c2 133 rfl rfl
theorem c_qq6 : Cond.classLink RX6 11 "[[I" ∈ gT := gT_c2 109 rfl rfl
theorem c_lk9_55 : Cond.methodLink RX9 55 yX4_init ∈ gT := gT_c1 82 rfl rfl
end

/-! part 19.cctor -/
section
set_option maxHeartbeats 4000000 in
set_option maxRecDepth 100000 in
theorem kc_8_2 (l : Launch) (D : va_G) (cI cB cZ cQ : ClassId) (h0 : Nat) : cM l yX8_init cX8_init 1 1 1 700 D (xtys cI cB cZ cQ) [.ref h0] [(h0, .inr (8, [.null, .int 0, .int 0, .int 0, .int 0, .int 0, .int 0]))] 2 h0 (fun u => xb cI cB cZ cQ u 2 2) := by
  intro sz
  refine Met.ofW (cc := cX8_init) (maxL := 1) (ret := none) (by decide) rfl ?_
  intro p e s m args below meth c s₁ B hml hv
  obtain ⟨rfl, hsz, hP, hK, hD0, hN, hAO⟩ := hv
  have hx := B.exec
  have hb := B.bytes
  have hr := B.returns
  have hts : ∀ w ∈ gT, w.before _ s = true := fun w h => atoms_spec (ws := Cond.code yX8_init cX8_init 1 none :: gT) B.pre w (List.mem_cons_of_mem _ h)
  have hown : s.vm.findClass RX8 = some m.cls := findClass_of_methodNamed B.named
  have hlocks := B.notSynchronized
  have hin : meth.name = "<init>" := (name_of_methodNamed B.named B.method).1
  subst hsz
  have hD := hD0.self (sz := s.heap.size)
  generalize hAe : va_A [(h0, .inr (8, [.null, .int 0, .int 0, .int 0, .int 0, .int 0, .int 0]))] s.heap.size = A at hD ⊢
  have hA : ∀ q : Nat, s.heap.size ≤ q → A q := fun q h => by rw [← hAe]; exact Or.inr h
  have hS : va_S A s.heap s.heap [] := va_S.rf
  have hl := lv_entry ([.ref h0]) (n := 1) (Nat.le_of_ble_eq_true rfl)
  rw [lg_entry_eq]
  generalize (lg_sl ([.ref h0]) ++ List.replicate (1 - (lg_sl ([.ref h0])).length) Slot.unset).toArray = ls at hl ⊢
  have hl : lv_has ls 1 [(0, .ref h0)] := hl
  obtain ⟨B0, hB0⟩ : ∃ z : va_W, z = [] := ⟨_, rfl⟩
  have hP : va_P D vwCl ([(h0, .inr (8, [.null, .int 0, .int 0, .int 0, .int 0, .int 0, .int 0]))] ++ B0) s.heap := by rw [hB0]; exact hP
  have hD : va_D A ([(h0, .inr (8, [.null, .int 0, .int 0, .int 0, .int 0, .int 0, .int 0]))] ++ B0) := by rw [hB0]; exact hD
  refine lv_aload_n hx hb dX8_init_0 rfl (lv_at hl 0 rfl) ?_
  refine W.objInit hx hb hown (hts _ c_oi8) (hts _ c_ob.1) (hts _ c_ob.2) rfl (by rw [hml]; exact hl.1) rfl dX8_init_1 (Nat.le_of_ble_eq_true rfl) (Nat.le_of_ble_eq_true rfl) ?_
  refine W.eq (g2 := F0 m 4 ls []) rfl ?_
  refine lv_aload_n hx hb dX8_init_4 rfl (lv_at hl 0 rfl) ?_
  refine lv_sipush (v := 700) hx hb dX8_init_5 (by decide) ?_
  refine c_newa (atype := .byte) (a0 := (700, .inl (fun _ => 0))) hx hb (hts _ c_ac_byte) rfl (fun _ h => by cases h) hK (t0 := 1) rfl hP hD hS hA (fun _ => rfl) (by decide) (by decide) (Nat.le_of_ble_eq_true rfl) (Nat.le_of_ble_eq_true rfl) (Nat.le_of_ble_eq_true rfl) dX8_init_8 (fun q1 H hP hD hS => ?_)
  have hP : va_P D vwCl ([(h0, .inr (8, [.null, .int 0, .int 0, .int 0, .int 0, .int 0, .int 0]))] ++ (B0 ++ [(q1, .inl (cB, 700, .inl (fun _ => 0)))])) H := by rw [← List.append_assoc]; exact hP
  have hD : va_D A ([(h0, .inr (8, [.null, .int 0, .int 0, .int 0, .int 0, .int 0, .int 0]))] ++ (B0 ++ [(q1, .inl (cB, 700, .inl (fun _ => 0)))])) := by rw [← List.append_assoc]; exact hD
  obtain ⟨B1, hB1⟩ : ∃ z : va_W, z = B0 ++ [(q1, .inl (cB, 700, .inl (fun _ => 0)))] := ⟨_, rfl⟩
  rewrite [← hB1] at hP hD
  refine W.widen (k := 1) (n := 700) (Nat.le_of_ble_eq_true rfl) (Nat.le_of_ble_eq_true rfl) ?_
  refine va_putF (D := D) (ci := 8) (v := .ref q1) (ty := tyX8 0) (C := RX8) (T := TX8) (N := 7) hx hb hts x_in8 tyX8 tyX8_ok nmX8 hown hK hP hD hS 0 rfl rfl 0 (by decide) (hts _ xl_X8_9) (fun _ h9 => h9) rfl hin rfl (tyX8_ok 0 (by decide)) rfl rfl (Nat.le_of_ble_eq_true rfl) dX8_init_10 (fun H locs hP hD hS => ?_)
  have hP : va_P D vwCl ([(h0, .inr (8, [.ref q1, .int 0, .int 0, .int 0, .int 0, .int 0, .int 0]))] ++ B1) H := hP
  have hD : va_D A ([(h0, .inr (8, [.ref q1, .int 0, .int 0, .int 0, .int 0, .int 0, .int 0]))] ++ B1) := hD
  refine lv_aload_n hx hb dX8_init_13 rfl (lv_at hl 0 rfl) ?_
  refine lv_iconst (v := 0) hx hb dX8_init_14 (by decide) ?_
  refine va_put (D := D) (ci := 8) (v := .int 0) (ty := tyX8 1) (C := RX8) (T := TX8) (N := 7) hx hb hts x_in8 tyX8 tyX8_ok nmX8 hown hK hP hD hS 0 rfl rfl 1 (by decide) (hts _ xl_X8_15) (fun _ h9 => h9) rfl (tyX8_ok 1 (by decide)) rfl rfl (Nat.le_of_ble_eq_true rfl) dX8_init_15 (fun H locs hP hD hS => ?_)
  have hP : va_P D vwCl ([(h0, .inr (8, [.ref q1, .int 0, .int 0, .int 0, .int 0, .int 0, .int 0]))] ++ B1) H := hP
  have hD : va_D A ([(h0, .inr (8, [.ref q1, .int 0, .int 0, .int 0, .int 0, .int 0, .int 0]))] ++ B1) := hD
  refine lv_aload_n hx hb dX8_init_18 rfl (lv_at hl 0 rfl) ?_
  refine lv_iconst (v := 0) hx hb dX8_init_19 (by decide) ?_
  refine va_put (D := D) (ci := 8) (v := .int 0) (ty := tyX8 2) (C := RX8) (T := TX8) (N := 7) hx hb hts x_in8 tyX8 tyX8_ok nmX8 hown hK hP hD hS 0 rfl rfl 2 (by decide) (hts _ xl_X8_19) (fun _ h9 => h9) rfl (tyX8_ok 2 (by decide)) rfl rfl (Nat.le_of_ble_eq_true rfl) dX8_init_20 (fun H locs hP hD hS => ?_)
  have hP : va_P D vwCl ([(h0, .inr (8, [.ref q1, .int 0, .int 0, .int 0, .int 0, .int 0, .int 0]))] ++ B1) H := hP
  have hD : va_D A ([(h0, .inr (8, [.ref q1, .int 0, .int 0, .int 0, .int 0, .int 0, .int 0]))] ++ B1) := hD
  refine lv_aload_n hx hb dX8_init_23 rfl (lv_at hl 0 rfl) ?_
  refine lv_iconst (v := 0) hx hb dX8_init_24 (by decide) ?_
  refine va_put (D := D) (ci := 8) (v := .int 0) (ty := tyX8 3) (C := RX8) (T := TX8) (N := 7) hx hb hts x_in8 tyX8 tyX8_ok nmX8 hown hK hP hD hS 0 rfl rfl 3 (by decide) (hts _ xl_X8_22) (fun _ h9 => h9) rfl (tyX8_ok 3 (by decide)) rfl rfl (Nat.le_of_ble_eq_true rfl) dX8_init_25 (fun H locs hP hD hS => ?_)
  have hP : va_P D vwCl ([(h0, .inr (8, [.ref q1, .int 0, .int 0, .int 0, .int 0, .int 0, .int 0]))] ++ B1) H := hP
  have hD : va_D A ([(h0, .inr (8, [.ref q1, .int 0, .int 0, .int 0, .int 0, .int 0, .int 0]))] ++ B1) := hD
  refine lv_aload_n hx hb dX8_init_28 rfl (lv_at hl 0 rfl) ?_
  refine lv_iconst (v := 0) hx hb dX8_init_29 (by decide) ?_
  refine va_put (D := D) (ci := 8) (v := .int 0) (ty := tyX8 4) (C := RX8) (T := TX8) (N := 7) hx hb hts x_in8 tyX8 tyX8_ok nmX8 hown hK hP hD hS 0 rfl rfl 4 (by decide) (hts _ xl_X8_25) (fun _ h9 => h9) rfl (tyX8_ok 4 (by decide)) rfl rfl (Nat.le_of_ble_eq_true rfl) dX8_init_30 (fun H locs hP hD hS => ?_)
  have hP : va_P D vwCl ([(h0, .inr (8, [.ref q1, .int 0, .int 0, .int 0, .int 0, .int 0, .int 0]))] ++ B1) H := hP
  have hD : va_D A ([(h0, .inr (8, [.ref q1, .int 0, .int 0, .int 0, .int 0, .int 0, .int 0]))] ++ B1) := hD
  refine lv_aload_n hx hb dX8_init_33 rfl (lv_at hl 0 rfl) ?_
  refine lv_iconst (v := 0) hx hb dX8_init_34 (by decide) ?_
  refine va_put (D := D) (ci := 8) (v := .int 0) (ty := tyX8 5) (C := RX8) (T := TX8) (N := 7) hx hb hts x_in8 tyX8 tyX8_ok nmX8 hown hK hP hD hS 0 rfl rfl 5 (by decide) (hts _ xl_X8_28) (fun _ h9 => h9) rfl (tyX8_ok 5 (by decide)) rfl rfl (Nat.le_of_ble_eq_true rfl) dX8_init_35 (fun H locs hP hD hS => ?_)
  have hP : va_P D vwCl ([(h0, .inr (8, [.ref q1, .int 0, .int 0, .int 0, .int 0, .int 0, .int 0]))] ++ B1) H := hP
  have hD : va_D A ([(h0, .inr (8, [.ref q1, .int 0, .int 0, .int 0, .int 0, .int 0, .int 0]))] ++ B1) := hD
  refine lv_aload_n hx hb dX8_init_38 rfl (lv_at hl 0 rfl) ?_
  refine lv_iconst (v := 0) hx hb dX8_init_39 (by decide) ?_
  refine va_put (D := D) (ci := 8) (v := .int 0) (ty := tyX8 6) (C := RX8) (T := TX8) (N := 7) hx hb hts x_in8 tyX8 tyX8_ok nmX8 hown hK hP hD hS 0 rfl rfl 6 (by decide) (hts _ xl_X8_31) (fun _ h9 => h9) rfl (tyX8_ok 6 (by decide)) rfl rfl (Nat.le_of_ble_eq_true rfl) dX8_init_40 (fun H locs hP hD hS => ?_)
  have hP : va_P D vwCl ([(h0, .inr (8, [.ref q1, .int 0, .int 0, .int 0, .int 0, .int 0, .int 0]))] ++ B1) H := hP
  have hD : va_D A ([(h0, .inr (8, [.ref q1, .int 0, .int 0, .int 0, .int 0, .int 0, .int 0]))] ++ B1) := hD
  rewrite [hB1, hB0] at hP hD
  have hP9 : va_P D vwCl (xb cI cB cZ cQ (xj (fun _ => h0) 3 (fun _ => q1)) 2 2) H := hP
  have hD9 : va_D A (xb cI cB cZ cQ (xj (fun _ => h0) 3 (fun _ => q1)) 2 2) := hD
  exact W.vret hx hb hr (fun t ht hW => ⟨⟨(xj (fun _ => h0) 3 (fun _ => q1)), rfl, trivial, rfl, by rw [ht]; exact hP9, va_K.moved hW.alike hK, hD9⟩, hS.F ht⟩) hS.2.2 dX8_init_43 hlocks
set_option maxHeartbeats 4000000 in
set_option maxRecDepth 100000 in
theorem kg_4 (l : Launch) (D : va_G) (cI cB cZ cQ : ClassId) (h0 : Nat) (v : Int32) (hnv : narrow (tyX4 2) (Value.int v) = Value.int v) (hfv : fits (tyX4 2) (Value.int v) = true) (b : Nat) (ws : (Nat → Nat) → va_W) (hws : ∀ q1 q2 : Nat, ∃ u : Nat → Nat, u b = h0 ∧ ws u = [(h0, .inr (4, [.ref q1, .ref q2, .int v, .int 0])), (q1, .inl (cI, 700, .inl (fun _ => 0))), (q2, .inl (cI, 31, .inl (fun _ => 0)))]) : cM l yX4_init cX4_init 2 1 2 731 D (xtys cI cB cZ cQ) [.ref h0, .int v] [(h0, .inr (4, [.null, .null, .int 0, .int 0]))] b h0 ws := by
  intro sz
  refine Met.ofW (cc := cX4_init) (maxL := 2) (ret := none) (by decide) rfl ?_
  intro p e s m args below meth c s₁ B hml hv
  obtain ⟨rfl, hsz, hP, hK, hD0, hN, hAO⟩ := hv
  have hx := B.exec
  have hb := B.bytes
  have hr := B.returns
  have hts : ∀ w ∈ gT, w.before _ s = true := fun w h => atoms_spec (ws := Cond.code yX4_init cX4_init 2 none :: gT) B.pre w (List.mem_cons_of_mem _ h)
  have hown : s.vm.findClass RX4 = some m.cls := findClass_of_methodNamed B.named
  have hlocks := B.notSynchronized
  have hin : meth.name = "<init>" := (name_of_methodNamed B.named B.method).1
  subst hsz
  have hD := hD0.self (sz := s.heap.size)
  generalize hAe : va_A [(h0, .inr (4, [.null, .null, .int 0, .int 0]))] s.heap.size = A at hD ⊢
  have hA : ∀ q : Nat, s.heap.size ≤ q → A q := fun q h => by rw [← hAe]; exact Or.inr h
  have hS : va_S A s.heap s.heap [] := va_S.rf
  have hl := lv_entry ([.ref h0, .int v]) (n := 2) (Nat.le_of_ble_eq_true rfl)
  rw [lg_entry_eq]
  generalize (lg_sl ([.ref h0, .int v]) ++ List.replicate (2 - (lg_sl ([.ref h0, .int v])).length) Slot.unset).toArray = ls at hl ⊢
  have hl : lv_has ls 2 [(0, .ref h0), (1, .int v)] := hl
  obtain ⟨B0, hB0⟩ : ∃ z : va_W, z = [] := ⟨_, rfl⟩
  have hP : va_P D vwCl ([(h0, .inr (4, [.null, .null, .int 0, .int 0]))] ++ B0) s.heap := by rw [hB0]; exact hP
  have hD : va_D A ([(h0, .inr (4, [.null, .null, .int 0, .int 0]))] ++ B0) := by rw [hB0]; exact hD
  refine lv_aload_n hx hb dX4_init_0 rfl (lv_at hl 0 rfl) ?_
  refine W.objInit hx hb hown (hts _ c_oi4) (hts _ c_ob.1) (hts _ c_ob.2) rfl (by rw [hml]; exact hl.1) rfl dX4_init_1 (Nat.le_of_ble_eq_true rfl) (Nat.le_of_ble_eq_true rfl) ?_
  refine W.eq (g2 := F0 m 4 ls []) rfl ?_
  refine lv_aload_n hx hb dX4_init_4 rfl (lv_at hl 0 rfl) ?_
  refine lv_sipush (v := 700) hx hb dX4_init_5 (by decide) ?_
  refine c_newa (atype := .int) (a0 := (700, .inl (fun _ => 0))) hx hb (hts _ c_ac_int) rfl (fun _ h => by cases h) hK (t0 := 0) rfl hP hD hS hA (fun _ => rfl) (by decide) (by decide) (Nat.le_of_ble_eq_true rfl) (Nat.le_of_ble_eq_true rfl) (Nat.le_of_ble_eq_true rfl) dX4_init_8 (fun q1 H hP hD hS => ?_)
  have hP : va_P D vwCl ([(h0, .inr (4, [.null, .null, .int 0, .int 0]))] ++ (B0 ++ [(q1, .inl (cI, 700, .inl (fun _ => 0)))])) H := by rw [← List.append_assoc]; exact hP
  have hD : va_D A ([(h0, .inr (4, [.null, .null, .int 0, .int 0]))] ++ (B0 ++ [(q1, .inl (cI, 700, .inl (fun _ => 0)))])) := by rw [← List.append_assoc]; exact hD
  obtain ⟨B1, hB1⟩ : ∃ z : va_W, z = B0 ++ [(q1, .inl (cI, 700, .inl (fun _ => 0)))] := ⟨_, rfl⟩
  rewrite [← hB1] at hP hD
  refine W.widen (k := 1) (n := 700) (Nat.le_of_ble_eq_true rfl) (Nat.le_of_ble_eq_true rfl) ?_
  refine va_putF (D := D) (ci := 4) (v := .ref q1) (ty := tyX4 0) (C := RX4) (T := TX4) (N := 4) hx hb hts x_in4 tyX4 tyX4_ok nmX4 hown hK hP hD hS 0 rfl rfl 0 (by decide) (hts _ xl_X4_9) (fun _ h9 => h9) rfl hin rfl (tyX4_ok 0 (by decide)) rfl rfl (Nat.le_of_ble_eq_true rfl) dX4_init_10 (fun H locs hP hD hS => ?_)
  have hP : va_P D vwCl ([(h0, .inr (4, [.ref q1, .null, .int 0, .int 0]))] ++ B1) H := hP
  have hD : va_D A ([(h0, .inr (4, [.ref q1, .null, .int 0, .int 0]))] ++ B1) := hD
  refine lv_aload_n hx hb dX4_init_13 rfl (lv_at hl 0 rfl) ?_
  refine lv_bipush (v := 31) hx hb dX4_init_14 (by decide) ?_
  refine c_newa (atype := .int) (a0 := (31, .inl (fun _ => 0))) hx hb (hts _ c_ac_int) rfl (fun _ h => by cases h) hK (t0 := 0) rfl hP hD hS hA (fun _ => rfl) (by decide) (by decide) (Nat.le_of_ble_eq_true rfl) (Nat.le_of_ble_eq_true rfl) (Nat.le_of_ble_eq_true rfl) dX4_init_16 (fun q2 H hP hD hS => ?_)
  have hP : va_P D vwCl ([(h0, .inr (4, [.ref q1, .null, .int 0, .int 0]))] ++ (B1 ++ [(q2, .inl (cI, 31, .inl (fun _ => 0)))])) H := by rw [← List.append_assoc]; exact hP
  have hD : va_D A ([(h0, .inr (4, [.ref q1, .null, .int 0, .int 0]))] ++ (B1 ++ [(q2, .inl (cI, 31, .inl (fun _ => 0)))])) := by rw [← List.append_assoc]; exact hD
  obtain ⟨B2, hB2⟩ : ∃ z : va_W, z = B1 ++ [(q2, .inl (cI, 31, .inl (fun _ => 0)))] := ⟨_, rfl⟩
  rewrite [← hB2] at hP hD
  refine W.widen (k := 2) (n := 731) (Nat.le_of_ble_eq_true rfl) (Nat.le_of_ble_eq_true rfl) ?_
  refine va_putF (D := D) (ci := 4) (v := .ref q2) (ty := tyX4 1) (C := RX4) (T := TX4) (N := 4) hx hb hts x_in4 tyX4 tyX4_ok nmX4 hown hK hP hD hS 0 rfl rfl 1 (by decide) (hts _ xl_X4_15) (fun _ h9 => h9) rfl hin rfl (tyX4_ok 1 (by decide)) rfl rfl (Nat.le_of_ble_eq_true rfl) dX4_init_18 (fun H locs hP hD hS => ?_)
  have hP : va_P D vwCl ([(h0, .inr (4, [.ref q1, .ref q2, .int 0, .int 0]))] ++ B2) H := hP
  have hD : va_D A ([(h0, .inr (4, [.ref q1, .ref q2, .int 0, .int 0]))] ++ B2) := hD
  refine lv_aload_n hx hb dX4_init_21 rfl (lv_at hl 0 rfl) ?_
  refine lv_iconst (v := 0) hx hb dX4_init_22 (by decide) ?_
  refine va_put (D := D) (ci := 4) (v := .int 0) (ty := tyX4 3) (C := RX4) (T := TX4) (N := 4) hx hb hts x_in4 tyX4 tyX4_ok nmX4 hown hK hP hD hS 0 rfl rfl 3 (by decide) (hts _ xl_X4_18) (fun _ h9 => h9) rfl (tyX4_ok 3 (by decide)) rfl rfl (Nat.le_of_ble_eq_true rfl) dX4_init_23 (fun H locs hP hD hS => ?_)
  have hP : va_P D vwCl ([(h0, .inr (4, [.ref q1, .ref q2, .int 0, .int 0]))] ++ B2) H := hP
  have hD : va_D A ([(h0, .inr (4, [.ref q1, .ref q2, .int 0, .int 0]))] ++ B2) := hD
  refine lv_aload_n hx hb dX4_init_26 rfl (lv_at hl 0 rfl) ?_
  refine lv_iload_n hx hb dX4_init_27 rfl (lv_at hl 1 rfl) ?_
  refine va_putF (D := D) (ci := 4) (v := .int v) (ty := tyX4 2) (C := RX4) (T := TX4) (N := 4) hx hb hts x_in4 tyX4 tyX4_ok nmX4 hown hK hP hD hS 0 rfl rfl 2 (by decide) (hts _ xl_X4_22) (fun _ h9 => h9) rfl hin rfl (tyX4_ok 2 (by decide)) hnv hfv (Nat.le_of_ble_eq_true rfl) dX4_init_28 (fun H locs hP hD hS => ?_)
  have hP : va_P D vwCl ([(h0, .inr (4, [.ref q1, .ref q2, .int v, .int 0]))] ++ B2) H := hP
  have hD : va_D A ([(h0, .inr (4, [.ref q1, .ref q2, .int v, .int 0]))] ++ B2) := hD
  rewrite [hB2, hB1, hB0] at hP hD
  obtain ⟨u, hu, hwe⟩ := hws q1 q2
  have hP9 : va_P D vwCl (ws u) H := by rewrite [hwe]; exact hP
  have hD9 : va_D A (ws u) := by rewrite [hwe]; exact hD
  exact W.vret hx hb hr (fun t ht hW => ⟨⟨u, rfl, trivial, hu, by rw [ht]; exact hP9, va_K.moved hW.alike hK, hD9⟩, hS.F ht⟩) hS.2.2 dX4_init_31 hlocks
theorem kc_4_14 (l : Launch) (D : va_G) (cI cB cZ cQ : ClassId) (h0 : Nat) : cM l yX4_init cX4_init 2 1 2 731 D (xtys cI cB cZ cQ) [.ref h0, .int 0] [(h0, .inr (4, [.null, .null, .int 0, .int 0]))] 14 h0 (fun u => xb cI cB cZ cQ u 14 3) :=
  kg_4 l D cI cB cZ cQ h0 0 rfl rfl 14 _ (fun q1 q2 => ⟨(xj (xj (fun _ => h0) 15 (fun _ => q1)) 16 (fun _ => q2)), rfl, rfl⟩)
theorem kc_4_17 (l : Launch) (D : va_G) (cI cB cZ cQ : ClassId) (h0 : Nat) : cM l yX4_init cX4_init 2 1 2 731 D (xtys cI cB cZ cQ) [.ref h0, .int 1] [(h0, .inr (4, [.null, .null, .int 0, .int 0]))] 17 h0 (fun u => xb cI cB cZ cQ u 17 3) :=
  kg_4 l D cI cB cZ cQ h0 1 rfl rfl 17 _ (fun q1 q2 => ⟨(xj (xj (fun _ => h0) 18 (fun _ => q1)) 19 (fun _ => q2)), rfl, rfl⟩)
set_option maxHeartbeats 4000000 in
set_option maxRecDepth 100000 in
theorem kc_9_4 (l : Launch) (D : va_G) (cI cB cZ cQ : ClassId) (h0 : Nat) : cM l yX9_init cX9_init 1 2 15 1534 D (xtys cI cB cZ cQ) [.ref h0] [(h0, .inr (9, [.int 0, .null, .null, .null, .null, .int 0, .null, .null, .null, .null, .int 0, .null, .int 0, .null, .null]))] 4 h0 (fun u => xb cI cB cZ cQ u 4 16) := by
  intro sz
  refine Met.ofW (cc := cX9_init) (maxL := 1) (ret := none) (by decide) rfl ?_
  intro p e s m args below meth c s₁ B hml hv
  obtain ⟨rfl, hsz, hP, hK, hD0, hN, hAO⟩ := hv
  have hx := B.exec
  have hb := B.bytes
  have hr := B.returns
  have hts : ∀ w ∈ gT, w.before _ s = true := fun w h => atoms_spec (ws := Cond.code yX9_init cX9_init 1 none :: gT) B.pre w (List.mem_cons_of_mem _ h)
  have hown : s.vm.findClass RX9 = some m.cls := findClass_of_methodNamed B.named
  have hlocks := B.notSynchronized
  have hin : meth.name = "<init>" := (name_of_methodNamed B.named B.method).1
  subst hsz
  have hD := hD0.self (sz := s.heap.size)
  generalize hAe : va_A [(h0, .inr (9, [.int 0, .null, .null, .null, .null, .int 0, .null, .null, .null, .null, .int 0, .null, .int 0, .null, .null]))] s.heap.size = A at hD ⊢
  have hA : ∀ q : Nat, s.heap.size ≤ q → A q := fun q h => by rw [← hAe]; exact Or.inr h
  have hS : va_S A s.heap s.heap [] := va_S.rf
  have hl := lv_entry ([.ref h0]) (n := 1) (Nat.le_of_ble_eq_true rfl)
  rw [lg_entry_eq]
  generalize (lg_sl ([.ref h0]) ++ List.replicate (1 - (lg_sl ([.ref h0])).length) Slot.unset).toArray = ls at hl ⊢
  have hl : lv_has ls 1 [(0, .ref h0)] := hl
  obtain ⟨B0, hB0⟩ : ∃ z : va_W, z = [] := ⟨_, rfl⟩
  have hP : va_P D vwCl ([(h0, .inr (9, [.int 0, .null, .null, .null, .null, .int 0, .null, .null, .null, .null, .int 0, .null, .int 0, .null, .null]))] ++ B0) s.heap := by rw [hB0]; exact hP
  have hD : va_D A ([(h0, .inr (9, [.int 0, .null, .null, .null, .null, .int 0, .null, .null, .null, .null, .int 0, .null, .int 0, .null, .null]))] ++ B0) := by rw [hB0]; exact hD
  refine lv_aload_n hx hb dX9_init_0 rfl (lv_at hl 0 rfl) ?_
  refine W.objInit hx hb hown (hts _ c_oi9) (hts _ c_ob.1) (hts _ c_ob.2) rfl (by rw [hml]; exact hl.1) rfl dX9_init_1 (Nat.le_of_ble_eq_true rfl) (Nat.le_of_ble_eq_true rfl) ?_
  refine W.eq (g2 := F0 m 4 ls []) rfl ?_
  refine lv_aload_n hx hb dX9_init_4 rfl (lv_at hl 0 rfl) ?_
  refine lv_iconst (v := 0) hx hb dX9_init_5 (by decide) ?_
  refine va_put (D := D) (ci := 9) (v := .int 0) (ty := tyX9 0) (C := RX9) (T := TX9) (N := 15) hx hb hts x_in9 tyX9 tyX9_ok nmX9 hown hK hP hD hS 0 rfl rfl 0 (by decide) (hts _ xl_X9_9) (fun _ h9 => h9) rfl (tyX9_ok 0 (by decide)) rfl rfl (Nat.le_of_ble_eq_true rfl) dX9_init_6 (fun H locs hP hD hS => ?_)
  have hP : va_P D vwCl ([(h0, .inr (9, [.int 0, .null, .null, .null, .null, .int 0, .null, .null, .null, .null, .int 0, .null, .int 0, .null, .null]))] ++ B0) H := hP
  have hD : va_D A ([(h0, .inr (9, [.int 0, .null, .null, .null, .null, .int 0, .null, .null, .null, .null, .int 0, .null, .int 0, .null, .null]))] ++ B0) := hD
  refine lv_aload_n hx hb dX9_init_9 rfl (lv_at hl 0 rfl) ?_
  refine lv_bipush (v := 8) hx hb dX9_init_10 (by decide) ?_
  refine c_newa (atype := .int) (a0 := (8, .inl (fun _ => 0))) hx hb (hts _ c_ac_int) rfl (fun _ h => by cases h) hK (t0 := 0) rfl hP hD hS hA (fun _ => rfl) (by decide) (by decide) (Nat.le_of_ble_eq_true rfl) (Nat.le_of_ble_eq_true rfl) (Nat.le_of_ble_eq_true rfl) dX9_init_12 (fun q1 H hP hD hS => ?_)
  have hP : va_P D vwCl ([(h0, .inr (9, [.int 0, .null, .null, .null, .null, .int 0, .null, .null, .null, .null, .int 0, .null, .int 0, .null, .null]))] ++ (B0 ++ [(q1, .inl (cI, 8, .inl (fun _ => 0)))])) H := by rw [← List.append_assoc]; exact hP
  have hD : va_D A ([(h0, .inr (9, [.int 0, .null, .null, .null, .null, .int 0, .null, .null, .null, .null, .int 0, .null, .int 0, .null, .null]))] ++ (B0 ++ [(q1, .inl (cI, 8, .inl (fun _ => 0)))])) := by rw [← List.append_assoc]; exact hD
  obtain ⟨B1, hB1⟩ : ∃ z : va_W, z = B0 ++ [(q1, .inl (cI, 8, .inl (fun _ => 0)))] := ⟨_, rfl⟩
  rewrite [← hB1] at hP hD
  refine W.widen (k := 1) (n := 8) (Nat.le_of_ble_eq_true rfl) (Nat.le_of_ble_eq_true rfl) ?_
  refine va_putF (D := D) (ci := 9) (v := .ref q1) (ty := tyX9 1) (C := RX9) (T := TX9) (N := 15) hx hb hts x_in9 tyX9 tyX9_ok nmX9 hown hK hP hD hS 0 rfl rfl 1 (by decide) (hts _ xl_X9_15) (fun _ h9 => h9) rfl hin rfl (tyX9_ok 1 (by decide)) rfl rfl (Nat.le_of_ble_eq_true rfl) dX9_init_14 (fun H locs hP hD hS => ?_)
  have hP : va_P D vwCl ([(h0, .inr (9, [.int 0, .ref q1, .null, .null, .null, .int 0, .null, .null, .null, .null, .int 0, .null, .int 0, .null, .null]))] ++ B1) H := hP
  have hD : va_D A ([(h0, .inr (9, [.int 0, .ref q1, .null, .null, .null, .int 0, .null, .null, .null, .null, .int 0, .null, .int 0, .null, .null]))] ++ B1) := hD
  refine lv_aload_n hx hb dX9_init_17 rfl (lv_at hl 0 rfl) ?_
  refine lv_bipush (v := 8) hx hb dX9_init_18 (by decide) ?_
  refine c_newa (atype := .int) (a0 := (8, .inl (fun _ => 0))) hx hb (hts _ c_ac_int) rfl (fun _ h => by cases h) hK (t0 := 0) rfl hP hD hS hA (fun _ => rfl) (by decide) (by decide) (Nat.le_of_ble_eq_true rfl) (Nat.le_of_ble_eq_true rfl) (Nat.le_of_ble_eq_true rfl) dX9_init_20 (fun q2 H hP hD hS => ?_)
  have hP : va_P D vwCl ([(h0, .inr (9, [.int 0, .ref q1, .null, .null, .null, .int 0, .null, .null, .null, .null, .int 0, .null, .int 0, .null, .null]))] ++ (B1 ++ [(q2, .inl (cI, 8, .inl (fun _ => 0)))])) H := by rw [← List.append_assoc]; exact hP
  have hD : va_D A ([(h0, .inr (9, [.int 0, .ref q1, .null, .null, .null, .int 0, .null, .null, .null, .null, .int 0, .null, .int 0, .null, .null]))] ++ (B1 ++ [(q2, .inl (cI, 8, .inl (fun _ => 0)))])) := by rw [← List.append_assoc]; exact hD
  obtain ⟨B2, hB2⟩ : ∃ z : va_W, z = B1 ++ [(q2, .inl (cI, 8, .inl (fun _ => 0)))] := ⟨_, rfl⟩
  rewrite [← hB2] at hP hD
  refine W.widen (k := 2) (n := 16) (Nat.le_of_ble_eq_true rfl) (Nat.le_of_ble_eq_true rfl) ?_
  refine va_putF (D := D) (ci := 9) (v := .ref q2) (ty := tyX9 2) (C := RX9) (T := TX9) (N := 15) hx hb hts x_in9 tyX9 tyX9_ok nmX9 hown hK hP hD hS 0 rfl rfl 2 (by decide) (hts _ xl_X9_19) (fun _ h9 => h9) rfl hin rfl (tyX9_ok 2 (by decide)) rfl rfl (Nat.le_of_ble_eq_true rfl) dX9_init_22 (fun H locs hP hD hS => ?_)
  have hP : va_P D vwCl ([(h0, .inr (9, [.int 0, .ref q1, .ref q2, .null, .null, .int 0, .null, .null, .null, .null, .int 0, .null, .int 0, .null, .null]))] ++ B2) H := hP
  have hD : va_D A ([(h0, .inr (9, [.int 0, .ref q1, .ref q2, .null, .null, .int 0, .null, .null, .null, .null, .int 0, .null, .int 0, .null, .null]))] ++ B2) := hD
  refine lv_aload_n hx hb dX9_init_25 rfl (lv_at hl 0 rfl) ?_
  refine lv_bipush (v := 8) hx hb dX9_init_26 (by decide) ?_
  refine c_newa (atype := .int) (a0 := (8, .inl (fun _ => 0))) hx hb (hts _ c_ac_int) rfl (fun _ h => by cases h) hK (t0 := 0) rfl hP hD hS hA (fun _ => rfl) (by decide) (by decide) (Nat.le_of_ble_eq_true rfl) (Nat.le_of_ble_eq_true rfl) (Nat.le_of_ble_eq_true rfl) dX9_init_28 (fun q3 H hP hD hS => ?_)
  have hP : va_P D vwCl ([(h0, .inr (9, [.int 0, .ref q1, .ref q2, .null, .null, .int 0, .null, .null, .null, .null, .int 0, .null, .int 0, .null, .null]))] ++ (B2 ++ [(q3, .inl (cI, 8, .inl (fun _ => 0)))])) H := by rw [← List.append_assoc]; exact hP
  have hD : va_D A ([(h0, .inr (9, [.int 0, .ref q1, .ref q2, .null, .null, .int 0, .null, .null, .null, .null, .int 0, .null, .int 0, .null, .null]))] ++ (B2 ++ [(q3, .inl (cI, 8, .inl (fun _ => 0)))])) := by rw [← List.append_assoc]; exact hD
  obtain ⟨B3, hB3⟩ : ∃ z : va_W, z = B2 ++ [(q3, .inl (cI, 8, .inl (fun _ => 0)))] := ⟨_, rfl⟩
  rewrite [← hB3] at hP hD
  refine W.widen (k := 3) (n := 24) (Nat.le_of_ble_eq_true rfl) (Nat.le_of_ble_eq_true rfl) ?_
  refine va_putF (D := D) (ci := 9) (v := .ref q3) (ty := tyX9 3) (C := RX9) (T := TX9) (N := 15) hx hb hts x_in9 tyX9 tyX9_ok nmX9 hown hK hP hD hS 0 rfl rfl 3 (by decide) (hts _ xl_X9_22) (fun _ h9 => h9) rfl hin rfl (tyX9_ok 3 (by decide)) rfl rfl (Nat.le_of_ble_eq_true rfl) dX9_init_30 (fun H locs hP hD hS => ?_)
  have hP : va_P D vwCl ([(h0, .inr (9, [.int 0, .ref q1, .ref q2, .ref q3, .null, .int 0, .null, .null, .null, .null, .int 0, .null, .int 0, .null, .null]))] ++ B3) H := hP
  have hD : va_D A ([(h0, .inr (9, [.int 0, .ref q1, .ref q2, .ref q3, .null, .int 0, .null, .null, .null, .null, .int 0, .null, .int 0, .null, .null]))] ++ B3) := hD
  refine lv_aload_n hx hb dX9_init_33 rfl (lv_at hl 0 rfl) ?_
  refine lv_bipush (v := 8) hx hb dX9_init_34 (by decide) ?_
  refine c_newa (atype := .boolean) (a0 := (8, .inl (fun _ => 0))) hx hb (hts _ c_ac_boolean) rfl (fun _ h => by cases h) hK (t0 := 2) rfl hP hD hS hA (fun _ => rfl) (by decide) (by decide) (Nat.le_of_ble_eq_true rfl) (Nat.le_of_ble_eq_true rfl) (Nat.le_of_ble_eq_true rfl) dX9_init_36 (fun q4 H hP hD hS => ?_)
  have hP : va_P D vwCl ([(h0, .inr (9, [.int 0, .ref q1, .ref q2, .ref q3, .null, .int 0, .null, .null, .null, .null, .int 0, .null, .int 0, .null, .null]))] ++ (B3 ++ [(q4, .inl (cZ, 8, .inl (fun _ => 0)))])) H := by rw [← List.append_assoc]; exact hP
  have hD : va_D A ([(h0, .inr (9, [.int 0, .ref q1, .ref q2, .ref q3, .null, .int 0, .null, .null, .null, .null, .int 0, .null, .int 0, .null, .null]))] ++ (B3 ++ [(q4, .inl (cZ, 8, .inl (fun _ => 0)))])) := by rw [← List.append_assoc]; exact hD
  obtain ⟨B4, hB4⟩ : ∃ z : va_W, z = B3 ++ [(q4, .inl (cZ, 8, .inl (fun _ => 0)))] := ⟨_, rfl⟩
  rewrite [← hB4] at hP hD
  refine W.widen (k := 4) (n := 32) (Nat.le_of_ble_eq_true rfl) (Nat.le_of_ble_eq_true rfl) ?_
  refine va_putF (D := D) (ci := 9) (v := .ref q4) (ty := tyX9 4) (C := RX9) (T := TX9) (N := 15) hx hb hts x_in9 tyX9 tyX9_ok nmX9 hown hK hP hD hS 0 rfl rfl 4 (by decide) (hts _ xl_X9_25) (fun _ h9 => h9) rfl hin rfl (tyX9_ok 4 (by decide)) rfl rfl (Nat.le_of_ble_eq_true rfl) dX9_init_38 (fun H locs hP hD hS => ?_)
  have hP : va_P D vwCl ([(h0, .inr (9, [.int 0, .ref q1, .ref q2, .ref q3, .ref q4, .int 0, .null, .null, .null, .null, .int 0, .null, .int 0, .null, .null]))] ++ B4) H := hP
  have hD : va_D A ([(h0, .inr (9, [.int 0, .ref q1, .ref q2, .ref q3, .ref q4, .int 0, .null, .null, .null, .null, .int 0, .null, .int 0, .null, .null]))] ++ B4) := hD
  refine lv_aload_n hx hb dX9_init_41 rfl (lv_at hl 0 rfl) ?_
  refine lv_iconst (v := 0) hx hb dX9_init_42 (by decide) ?_
  refine va_put (D := D) (ci := 9) (v := .int 0) (ty := tyX9 5) (C := RX9) (T := TX9) (N := 15) hx hb hts x_in9 tyX9 tyX9_ok nmX9 hown hK hP hD hS 0 rfl rfl 5 (by decide) (hts _ xl_X9_29) (fun _ h9 => h9) rfl (tyX9_ok 5 (by decide)) rfl rfl (Nat.le_of_ble_eq_true rfl) dX9_init_43 (fun H locs hP hD hS => ?_)
  have hP : va_P D vwCl ([(h0, .inr (9, [.int 0, .ref q1, .ref q2, .ref q3, .ref q4, .int 0, .null, .null, .null, .null, .int 0, .null, .int 0, .null, .null]))] ++ B4) H := hP
  have hD : va_D A ([(h0, .inr (9, [.int 0, .ref q1, .ref q2, .ref q3, .ref q4, .int 0, .null, .null, .null, .null, .int 0, .null, .int 0, .null, .null]))] ++ B4) := hD
  refine lv_aload_n hx hb dX9_init_46 rfl (lv_at hl 0 rfl) ?_
  refine lv_bipush (v := 6) hx hb dX9_init_47 (by decide) ?_
  refine c_newa (atype := .int) (a0 := (6, .inl (fun _ => 0))) hx hb (hts _ c_ac_int) rfl (fun _ h => by cases h) hK (t0 := 0) rfl hP hD hS hA (fun _ => rfl) (by decide) (by decide) (Nat.le_of_ble_eq_true rfl) (Nat.le_of_ble_eq_true rfl) (Nat.le_of_ble_eq_true rfl) dX9_init_49 (fun q5 H hP hD hS => ?_)
  have hP : va_P D vwCl ([(h0, .inr (9, [.int 0, .ref q1, .ref q2, .ref q3, .ref q4, .int 0, .null, .null, .null, .null, .int 0, .null, .int 0, .null, .null]))] ++ (B4 ++ [(q5, .inl (cI, 6, .inl (fun _ => 0)))])) H := by rw [← List.append_assoc]; exact hP
  have hD : va_D A ([(h0, .inr (9, [.int 0, .ref q1, .ref q2, .ref q3, .ref q4, .int 0, .null, .null, .null, .null, .int 0, .null, .int 0, .null, .null]))] ++ (B4 ++ [(q5, .inl (cI, 6, .inl (fun _ => 0)))])) := by rw [← List.append_assoc]; exact hD
  obtain ⟨B5, hB5⟩ : ∃ z : va_W, z = B4 ++ [(q5, .inl (cI, 6, .inl (fun _ => 0)))] := ⟨_, rfl⟩
  rewrite [← hB5] at hP hD
  refine W.widen (k := 5) (n := 38) (Nat.le_of_ble_eq_true rfl) (Nat.le_of_ble_eq_true rfl) ?_
  refine va_putF (D := D) (ci := 9) (v := .ref q5) (ty := tyX9 6) (C := RX9) (T := TX9) (N := 15) hx hb hts x_in9 tyX9 tyX9_ok nmX9 hown hK hP hD hS 0 rfl rfl 6 (by decide) (hts _ xl_X9_32) (fun _ h9 => h9) rfl hin rfl (tyX9_ok 6 (by decide)) rfl rfl (Nat.le_of_ble_eq_true rfl) dX9_init_51 (fun H locs hP hD hS => ?_)
  have hP : va_P D vwCl ([(h0, .inr (9, [.int 0, .ref q1, .ref q2, .ref q3, .ref q4, .int 0, .ref q5, .null, .null, .null, .int 0, .null, .int 0, .null, .null]))] ++ B5) H := hP
  have hD : va_D A ([(h0, .inr (9, [.int 0, .ref q1, .ref q2, .ref q3, .ref q4, .int 0, .ref q5, .null, .null, .null, .int 0, .null, .int 0, .null, .null]))] ++ B5) := hD
  refine lv_aload_n hx hb dX9_init_54 rfl (lv_at hl 0 rfl) ?_
  refine lv_bipush (v := 6) hx hb dX9_init_55 (by decide) ?_
  refine c_newa (atype := .int) (a0 := (6, .inl (fun _ => 0))) hx hb (hts _ c_ac_int) rfl (fun _ h => by cases h) hK (t0 := 0) rfl hP hD hS hA (fun _ => rfl) (by decide) (by decide) (Nat.le_of_ble_eq_true rfl) (Nat.le_of_ble_eq_true rfl) (Nat.le_of_ble_eq_true rfl) dX9_init_57 (fun q6 H hP hD hS => ?_)
  have hP : va_P D vwCl ([(h0, .inr (9, [.int 0, .ref q1, .ref q2, .ref q3, .ref q4, .int 0, .ref q5, .null, .null, .null, .int 0, .null, .int 0, .null, .null]))] ++ (B5 ++ [(q6, .inl (cI, 6, .inl (fun _ => 0)))])) H := by rw [← List.append_assoc]; exact hP
  have hD : va_D A ([(h0, .inr (9, [.int 0, .ref q1, .ref q2, .ref q3, .ref q4, .int 0, .ref q5, .null, .null, .null, .int 0, .null, .int 0, .null, .null]))] ++ (B5 ++ [(q6, .inl (cI, 6, .inl (fun _ => 0)))])) := by rw [← List.append_assoc]; exact hD
  obtain ⟨B6, hB6⟩ : ∃ z : va_W, z = B5 ++ [(q6, .inl (cI, 6, .inl (fun _ => 0)))] := ⟨_, rfl⟩
  rewrite [← hB6] at hP hD
  refine W.widen (k := 6) (n := 44) (Nat.le_of_ble_eq_true rfl) (Nat.le_of_ble_eq_true rfl) ?_
  refine va_putF (D := D) (ci := 9) (v := .ref q6) (ty := tyX9 7) (C := RX9) (T := TX9) (N := 15) hx hb hts x_in9 tyX9 tyX9_ok nmX9 hown hK hP hD hS 0 rfl rfl 7 (by decide) (hts _ xl_X9_35) (fun _ h9 => h9) rfl hin rfl (tyX9_ok 7 (by decide)) rfl rfl (Nat.le_of_ble_eq_true rfl) dX9_init_59 (fun H locs hP hD hS => ?_)
  have hP : va_P D vwCl ([(h0, .inr (9, [.int 0, .ref q1, .ref q2, .ref q3, .ref q4, .int 0, .ref q5, .ref q6, .null, .null, .int 0, .null, .int 0, .null, .null]))] ++ B6) H := hP
  have hD : va_D A ([(h0, .inr (9, [.int 0, .ref q1, .ref q2, .ref q3, .ref q4, .int 0, .ref q5, .ref q6, .null, .null, .int 0, .null, .int 0, .null, .null]))] ++ B6) := hD
  refine lv_aload_n hx hb dX9_init_62 rfl (lv_at hl 0 rfl) ?_
  refine lv_bipush (v := 6) hx hb dX9_init_63 (by decide) ?_
  refine c_newa (atype := .int) (a0 := (6, .inl (fun _ => 0))) hx hb (hts _ c_ac_int) rfl (fun _ h => by cases h) hK (t0 := 0) rfl hP hD hS hA (fun _ => rfl) (by decide) (by decide) (Nat.le_of_ble_eq_true rfl) (Nat.le_of_ble_eq_true rfl) (Nat.le_of_ble_eq_true rfl) dX9_init_65 (fun q7 H hP hD hS => ?_)
  have hP : va_P D vwCl ([(h0, .inr (9, [.int 0, .ref q1, .ref q2, .ref q3, .ref q4, .int 0, .ref q5, .ref q6, .null, .null, .int 0, .null, .int 0, .null, .null]))] ++ (B6 ++ [(q7, .inl (cI, 6, .inl (fun _ => 0)))])) H := by rw [← List.append_assoc]; exact hP
  have hD : va_D A ([(h0, .inr (9, [.int 0, .ref q1, .ref q2, .ref q3, .ref q4, .int 0, .ref q5, .ref q6, .null, .null, .int 0, .null, .int 0, .null, .null]))] ++ (B6 ++ [(q7, .inl (cI, 6, .inl (fun _ => 0)))])) := by rw [← List.append_assoc]; exact hD
  obtain ⟨B7, hB7⟩ : ∃ z : va_W, z = B6 ++ [(q7, .inl (cI, 6, .inl (fun _ => 0)))] := ⟨_, rfl⟩
  rewrite [← hB7] at hP hD
  refine W.widen (k := 7) (n := 50) (Nat.le_of_ble_eq_true rfl) (Nat.le_of_ble_eq_true rfl) ?_
  refine va_putF (D := D) (ci := 9) (v := .ref q7) (ty := tyX9 8) (C := RX9) (T := TX9) (N := 15) hx hb hts x_in9 tyX9 tyX9_ok nmX9 hown hK hP hD hS 0 rfl rfl 8 (by decide) (hts _ xl_X9_38) (fun _ h9 => h9) rfl hin rfl (tyX9_ok 8 (by decide)) rfl rfl (Nat.le_of_ble_eq_true rfl) dX9_init_67 (fun H locs hP hD hS => ?_)
  have hP : va_P D vwCl ([(h0, .inr (9, [.int 0, .ref q1, .ref q2, .ref q3, .ref q4, .int 0, .ref q5, .ref q6, .ref q7, .null, .int 0, .null, .int 0, .null, .null]))] ++ B7) H := hP
  have hD : va_D A ([(h0, .inr (9, [.int 0, .ref q1, .ref q2, .ref q3, .ref q4, .int 0, .ref q5, .ref q6, .ref q7, .null, .int 0, .null, .int 0, .null, .null]))] ++ B7) := hD
  refine lv_aload_n hx hb dX9_init_70 rfl (lv_at hl 0 rfl) ?_
  refine lv_bipush (v := 6) hx hb dX9_init_71 (by decide) ?_
  refine c_newa (atype := .int) (a0 := (6, .inl (fun _ => 0))) hx hb (hts _ c_ac_int) rfl (fun _ h => by cases h) hK (t0 := 0) rfl hP hD hS hA (fun _ => rfl) (by decide) (by decide) (Nat.le_of_ble_eq_true rfl) (Nat.le_of_ble_eq_true rfl) (Nat.le_of_ble_eq_true rfl) dX9_init_73 (fun q8 H hP hD hS => ?_)
  have hP : va_P D vwCl ([(h0, .inr (9, [.int 0, .ref q1, .ref q2, .ref q3, .ref q4, .int 0, .ref q5, .ref q6, .ref q7, .null, .int 0, .null, .int 0, .null, .null]))] ++ (B7 ++ [(q8, .inl (cI, 6, .inl (fun _ => 0)))])) H := by rw [← List.append_assoc]; exact hP
  have hD : va_D A ([(h0, .inr (9, [.int 0, .ref q1, .ref q2, .ref q3, .ref q4, .int 0, .ref q5, .ref q6, .ref q7, .null, .int 0, .null, .int 0, .null, .null]))] ++ (B7 ++ [(q8, .inl (cI, 6, .inl (fun _ => 0)))])) := by rw [← List.append_assoc]; exact hD
  obtain ⟨B8, hB8⟩ : ∃ z : va_W, z = B7 ++ [(q8, .inl (cI, 6, .inl (fun _ => 0)))] := ⟨_, rfl⟩
  rewrite [← hB8] at hP hD
  refine W.widen (k := 8) (n := 56) (Nat.le_of_ble_eq_true rfl) (Nat.le_of_ble_eq_true rfl) ?_
  refine va_putF (D := D) (ci := 9) (v := .ref q8) (ty := tyX9 9) (C := RX9) (T := TX9) (N := 15) hx hb hts x_in9 tyX9 tyX9_ok nmX9 hown hK hP hD hS 0 rfl rfl 9 (by decide) (hts _ xl_X9_41) (fun _ h9 => h9) rfl hin rfl (tyX9_ok 9 (by decide)) rfl rfl (Nat.le_of_ble_eq_true rfl) dX9_init_75 (fun H locs hP hD hS => ?_)
  have hP : va_P D vwCl ([(h0, .inr (9, [.int 0, .ref q1, .ref q2, .ref q3, .ref q4, .int 0, .ref q5, .ref q6, .ref q7, .ref q8, .int 0, .null, .int 0, .null, .null]))] ++ B8) H := hP
  have hD : va_D A ([(h0, .inr (9, [.int 0, .ref q1, .ref q2, .ref q3, .ref q4, .int 0, .ref q5, .ref q6, .ref q7, .ref q8, .int 0, .null, .int 0, .null, .null]))] ++ B8) := hD
  refine lv_aload_n hx hb dX9_init_78 rfl (lv_at hl 0 rfl) ?_
  refine lv_iconst (v := 0) hx hb dX9_init_79 (by decide) ?_
  refine va_put (D := D) (ci := 9) (v := .int 0) (ty := tyX9 10) (C := RX9) (T := TX9) (N := 15) hx hb hts x_in9 tyX9 tyX9_ok nmX9 hown hK hP hD hS 0 rfl rfl 10 (by decide) (hts _ xl_X9_44) (fun _ h9 => h9) rfl (tyX9_ok 10 (by decide)) rfl rfl (Nat.le_of_ble_eq_true rfl) dX9_init_80 (fun H locs hP hD hS => ?_)
  have hP : va_P D vwCl ([(h0, .inr (9, [.int 0, .ref q1, .ref q2, .ref q3, .ref q4, .int 0, .ref q5, .ref q6, .ref q7, .ref q8, .int 0, .null, .int 0, .null, .null]))] ++ B8) H := hP
  have hD : va_D A ([(h0, .inr (9, [.int 0, .ref q1, .ref q2, .ref q3, .ref q4, .int 0, .ref q5, .ref q6, .ref q7, .ref q8, .int 0, .null, .int 0, .null, .null]))] ++ B8) := hD
  refine lv_aload_n hx hb dX9_init_83 rfl (lv_at hl 0 rfl) ?_
  refine lv_bipush (v := 8) hx hb dX9_init_84 (by decide) ?_
  refine c_newa (atype := .int) (a0 := (8, .inl (fun _ => 0))) hx hb (hts _ c_ac_int) rfl (fun _ h => by cases h) hK (t0 := 0) rfl hP hD hS hA (fun _ => rfl) (by decide) (by decide) (Nat.le_of_ble_eq_true rfl) (Nat.le_of_ble_eq_true rfl) (Nat.le_of_ble_eq_true rfl) dX9_init_86 (fun q9 H hP hD hS => ?_)
  have hP : va_P D vwCl ([(h0, .inr (9, [.int 0, .ref q1, .ref q2, .ref q3, .ref q4, .int 0, .ref q5, .ref q6, .ref q7, .ref q8, .int 0, .null, .int 0, .null, .null]))] ++ (B8 ++ [(q9, .inl (cI, 8, .inl (fun _ => 0)))])) H := by rw [← List.append_assoc]; exact hP
  have hD : va_D A ([(h0, .inr (9, [.int 0, .ref q1, .ref q2, .ref q3, .ref q4, .int 0, .ref q5, .ref q6, .ref q7, .ref q8, .int 0, .null, .int 0, .null, .null]))] ++ (B8 ++ [(q9, .inl (cI, 8, .inl (fun _ => 0)))])) := by rw [← List.append_assoc]; exact hD
  obtain ⟨B9, hB9⟩ : ∃ z : va_W, z = B8 ++ [(q9, .inl (cI, 8, .inl (fun _ => 0)))] := ⟨_, rfl⟩
  rewrite [← hB9] at hP hD
  refine W.widen (k := 9) (n := 64) (Nat.le_of_ble_eq_true rfl) (Nat.le_of_ble_eq_true rfl) ?_
  refine va_putF (D := D) (ci := 9) (v := .ref q9) (ty := tyX9 11) (C := RX9) (T := TX9) (N := 15) hx hb hts x_in9 tyX9 tyX9_ok nmX9 hown hK hP hD hS 0 rfl rfl 11 (by decide) (hts _ xl_X9_47) (fun _ h9 => h9) rfl hin rfl (tyX9_ok 11 (by decide)) rfl rfl (Nat.le_of_ble_eq_true rfl) dX9_init_88 (fun H locs hP hD hS => ?_)
  have hP : va_P D vwCl ([(h0, .inr (9, [.int 0, .ref q1, .ref q2, .ref q3, .ref q4, .int 0, .ref q5, .ref q6, .ref q7, .ref q8, .int 0, .ref q9, .int 0, .null, .null]))] ++ B9) H := hP
  have hD : va_D A ([(h0, .inr (9, [.int 0, .ref q1, .ref q2, .ref q3, .ref q4, .int 0, .ref q5, .ref q6, .ref q7, .ref q8, .int 0, .ref q9, .int 0, .null, .null]))] ++ B9) := hD
  refine lv_aload_n hx hb dX9_init_91 rfl (lv_at hl 0 rfl) ?_
  refine lv_iconst (v := 0) hx hb dX9_init_92 (by decide) ?_
  refine va_put (D := D) (ci := 9) (v := .int 0) (ty := tyX9 12) (C := RX9) (T := TX9) (N := 15) hx hb hts x_in9 tyX9 tyX9_ok nmX9 hown hK hP hD hS 0 rfl rfl 12 (by decide) (hts _ xl_X9_50) (fun _ h9 => h9) rfl (tyX9_ok 12 (by decide)) rfl rfl (Nat.le_of_ble_eq_true rfl) dX9_init_93 (fun H locs hP hD hS => ?_)
  have hP : va_P D vwCl ([(h0, .inr (9, [.int 0, .ref q1, .ref q2, .ref q3, .ref q4, .int 0, .ref q5, .ref q6, .ref q7, .ref q8, .int 0, .ref q9, .int 0, .null, .null]))] ++ B9) H := hP
  have hD : va_D A ([(h0, .inr (9, [.int 0, .ref q1, .ref q2, .ref q3, .ref q4, .int 0, .ref q5, .ref q6, .ref q7, .ref q8, .int 0, .ref q9, .int 0, .null, .null]))] ++ B9) := hD
  refine lv_aload_n hx hb dX9_init_96 rfl (lv_at hl 0 rfl) ?_
  refine va_new (ci := 4) (fs := [.null, .null, .int 0, .int 0]) (C := RX4) (T := TX4) (N := 4) hx hb hts x_in4 tyX4 tyX4_ok hown (hts _ c_cl9_53) (hts _ c_is4.1) (hts _ c_is4.2) hK hP hD hS hA rfl c_df4 (Nat.le_of_ble_eq_true rfl) (Nat.le_of_ble_eq_true rfl) dX9_init_97 (fun q10 H hP hD hS => ?_)
  refine W.widen (k := 10) (n := 68) (Nat.le_of_ble_eq_true rfl) (Nat.le_of_ble_eq_true rfl) ?_
  refine lv_dup hx hb dX9_init_100 rfl ?_
  refine lv_iconst (v := 0) hx hb dX9_init_101 (by decide) ?_
  have hPc : va_P D vwCl [(q10, .inr (4, [.null, .null, .int 0, .int 0]))] H := c_right hP
  have hDc : va_D A [(q10, .inr (4, [.null, .null, .int 0, .int 0]))] := c_rightD hD
  have hFc := c_free (wc := [(q10, .inr (4, [.null, .null, .int 0, .int 0]))]) hD hS hA
  refine va_callv (va_runI (As := [.int 0]) (rest := [.ref q10, .ref h0]) ⟨hx, hb, hml, hown, hts⟩ (kc_4_14 l D cI cB cZ cQ q10 H.size) ⟨callB_of 1 hts (gT_in (fun w h => (List.mem_cons.mp h).elim (fun e => e ▸ c_cw4.1) id)) rfl rfl rfl (hts _ c_is4.2) (hts _ c_lk9_55) c_cw4.2.2 ⟨(Nat.le_of_ble_eq_true rfl), (Nat.le_of_ble_eq_true rfl)⟩, rfl, hts _ c_cw4.2.1⟩ ⟨fun a U g mk q => by obtain ⟨q0, q1, qP, qK, qD, qN, qO⟩ := q; exact ⟨q0, q1, qP, va_K.moved (u := U) (U := U.calling g mk a) (Vm.Alike.refl U.vm) qK, qD, xNest_warm (State.WarmedH.refl U) qN, aoa_moved (u := U) (U := U.calling g mk a) (Vm.Alike.refl U.vm) qO⟩, fun U hU hW => ⟨rfl, by rw [hU], by rw [hU]; exact hPc, va_K.moved hW.alike hK, hDc.weaken (fun _ _ _ _ => trivial), xNest_warm hW hN, aoa_moved hW.alike hAO⟩⟩ rfl rfl hl.1 rfl (lv_room (Nat.le_of_ble_eq_true rfl)) dX9_init_102 ⟨(Nat.le_of_ble_eq_true rfl), (Nat.le_of_ble_eq_true rfl)⟩) hS (fun q _ h => hFc q h) hFc (fun u10 t H1 locs ht hvm hw hB hz1 hk1 hS => ?_)
  obtain ⟨hu10, hP1, hK1, hD1⟩ := hB
  rewrite [ht] at hP1
  obtain ⟨hP, hD⟩ := c_join (wr := [(h0, .inr (9, [.int 0, .ref q1, .ref q2, .ref q3, .ref q4, .int 0, .ref q5, .ref q6, .ref q7, .ref q8, .int 0, .ref q9, .int 0, .null, .null]))] ++ B9) (w1 := xb cI cB cZ cQ u10 14 3) hP hD hk1 hFc hP1 hD1
  generalize H1 = H at hP hS ⊢
  have hP : va_P D vwCl ([(h0, .inr (9, [.int 0, .ref q1, .ref q2, .ref q3, .ref q4, .int 0, .ref q5, .ref q6, .ref q7, .ref q8, .int 0, .ref q9, .int 0, .null, .null]))] ++ (B9 ++ xb cI cB cZ cQ u10 14 3)) H := by rw [← List.append_assoc]; exact hP
  have hD : va_D A ([(h0, .inr (9, [.int 0, .ref q1, .ref q2, .ref q3, .ref q4, .int 0, .ref q5, .ref q6, .ref q7, .ref q8, .int 0, .ref q9, .int 0, .null, .null]))] ++ (B9 ++ xb cI cB cZ cQ u10 14 3)) := by rw [← List.append_assoc]; exact hD
  obtain ⟨B10, hB10⟩ : ∃ z : va_W, z = B9 ++ xb cI cB cZ cQ u10 14 3 := ⟨_, rfl⟩
  rewrite [← hB10] at hP hD
  have hz10 : Value.ref q10 = .ref (u10 14) := by rw [hu10]
  refine W.widen (k := 12) (n := 799) (Nat.le_of_ble_eq_true rfl) (Nat.le_of_ble_eq_true rfl) ?_
  rw [hz10]
  refine va_putF (D := D) (ci := 9) (v := .ref (u10 14)) (ty := tyX9 13) (C := RX9) (T := TX9) (N := 15) hx hb hts x_in9 tyX9 tyX9_ok nmX9 hown hK hP hD hS 0 rfl rfl 13 (by decide) (hts _ xl_X9_58) (fun _ h9 => h9) rfl hin rfl (tyX9_ok 13 (by decide)) rfl rfl (Nat.le_of_ble_eq_true rfl) dX9_init_105 (fun H locs hP hD hS => ?_)
  have hP : va_P D vwCl ([(h0, .inr (9, [.int 0, .ref q1, .ref q2, .ref q3, .ref q4, .int 0, .ref q5, .ref q6, .ref q7, .ref q8, .int 0, .ref q9, .int 0, .ref (u10 14), .null]))] ++ B10) H := hP
  have hD : va_D A ([(h0, .inr (9, [.int 0, .ref q1, .ref q2, .ref q3, .ref q4, .int 0, .ref q5, .ref q6, .ref q7, .ref q8, .int 0, .ref q9, .int 0, .ref (u10 14), .null]))] ++ B10) := hD
  refine lv_aload_n hx hb dX9_init_108 rfl (lv_at hl 0 rfl) ?_
  refine va_new (ci := 4) (fs := [.null, .null, .int 0, .int 0]) (C := RX4) (T := TX4) (N := 4) hx hb hts x_in4 tyX4 tyX4_ok hown (hts _ c_cl9_53) (hts _ c_is4.1) (hts _ c_is4.2) hK hP hD hS hA rfl c_df4 (Nat.le_of_ble_eq_true rfl) (Nat.le_of_ble_eq_true rfl) dX9_init_109 (fun q11 H hP hD hS => ?_)
  refine W.widen (k := 13) (n := 803) (Nat.le_of_ble_eq_true rfl) (Nat.le_of_ble_eq_true rfl) ?_
  refine lv_dup hx hb dX9_init_112 rfl ?_
  refine lv_iconst (v := 1) hx hb dX9_init_113 (by decide) ?_
  have hPc : va_P D vwCl [(q11, .inr (4, [.null, .null, .int 0, .int 0]))] H := c_right hP
  have hDc : va_D A [(q11, .inr (4, [.null, .null, .int 0, .int 0]))] := c_rightD hD
  have hFc := c_free (wc := [(q11, .inr (4, [.null, .null, .int 0, .int 0]))]) hD hS hA
  refine va_callv (va_runI (As := [.int 1]) (rest := [.ref q11, .ref h0]) ⟨hx, hb, hml, hown, hts⟩ (kc_4_17 l D cI cB cZ cQ q11 H.size) ⟨callB_of 1 hts (gT_in (fun w h => (List.mem_cons.mp h).elim (fun e => e ▸ c_cw4.1) id)) rfl rfl rfl (hts _ c_is4.2) (hts _ c_lk9_55) c_cw4.2.2 ⟨(Nat.le_of_ble_eq_true rfl), (Nat.le_of_ble_eq_true rfl)⟩, rfl, hts _ c_cw4.2.1⟩ ⟨fun a U g mk q => by obtain ⟨q0, q1, qP, qK, qD, qN, qO⟩ := q; exact ⟨q0, q1, qP, va_K.moved (u := U) (U := U.calling g mk a) (Vm.Alike.refl U.vm) qK, qD, xNest_warm (State.WarmedH.refl U) qN, aoa_moved (u := U) (U := U.calling g mk a) (Vm.Alike.refl U.vm) qO⟩, fun U hU hW => ⟨rfl, by rw [hU], by rw [hU]; exact hPc, va_K.moved hW.alike hK, hDc.weaken (fun _ _ _ _ => trivial), xNest_warm hW hN, aoa_moved hW.alike hAO⟩⟩ rfl rfl hl.1 rfl (lv_room (Nat.le_of_ble_eq_true rfl)) dX9_init_114 ⟨(Nat.le_of_ble_eq_true rfl), (Nat.le_of_ble_eq_true rfl)⟩) hS (fun q _ h => hFc q h) hFc (fun u11 t H1 locs ht hvm hw hB hz1 hk1 hS => ?_)
  obtain ⟨hu11, hP1, hK1, hD1⟩ := hB
  rewrite [ht] at hP1
  obtain ⟨hP, hD⟩ := c_join (wr := [(h0, .inr (9, [.int 0, .ref q1, .ref q2, .ref q3, .ref q4, .int 0, .ref q5, .ref q6, .ref q7, .ref q8, .int 0, .ref q9, .int 0, .ref (u10 14), .null]))] ++ B10) (w1 := xb cI cB cZ cQ u11 17 3) hP hD hk1 hFc hP1 hD1
  generalize H1 = H at hP hS ⊢
  have hP : va_P D vwCl ([(h0, .inr (9, [.int 0, .ref q1, .ref q2, .ref q3, .ref q4, .int 0, .ref q5, .ref q6, .ref q7, .ref q8, .int 0, .ref q9, .int 0, .ref (u10 14), .null]))] ++ (B10 ++ xb cI cB cZ cQ u11 17 3)) H := by rw [← List.append_assoc]; exact hP
  have hD : va_D A ([(h0, .inr (9, [.int 0, .ref q1, .ref q2, .ref q3, .ref q4, .int 0, .ref q5, .ref q6, .ref q7, .ref q8, .int 0, .ref q9, .int 0, .ref (u10 14), .null]))] ++ (B10 ++ xb cI cB cZ cQ u11 17 3)) := by rw [← List.append_assoc]; exact hD
  obtain ⟨B11, hB11⟩ : ∃ z : va_W, z = B10 ++ xb cI cB cZ cQ u11 17 3 := ⟨_, rfl⟩
  rewrite [← hB11] at hP hD
  have hz11 : Value.ref q11 = .ref (u11 17) := by rw [hu11]
  refine W.widen (k := 15) (n := 1534) (Nat.le_of_ble_eq_true rfl) (Nat.le_of_ble_eq_true rfl) ?_
  rw [hz11]
  refine va_putF (D := D) (ci := 9) (v := .ref (u11 17)) (ty := tyX9 14) (C := RX9) (T := TX9) (N := 15) hx hb hts x_in9 tyX9 tyX9_ok nmX9 hown hK hP hD hS 0 rfl rfl 14 (by decide) (hts _ xl_X9_62) (fun _ h9 => h9) rfl hin rfl (tyX9_ok 14 (by decide)) rfl rfl (Nat.le_of_ble_eq_true rfl) dX9_init_117 (fun H locs hP hD hS => ?_)
  have hP : va_P D vwCl ([(h0, .inr (9, [.int 0, .ref q1, .ref q2, .ref q3, .ref q4, .int 0, .ref q5, .ref q6, .ref q7, .ref q8, .int 0, .ref q9, .int 0, .ref (u10 14), .ref (u11 17)]))] ++ B11) H := hP
  have hD : va_D A ([(h0, .inr (9, [.int 0, .ref q1, .ref q2, .ref q3, .ref q4, .int 0, .ref q5, .ref q6, .ref q7, .ref q8, .int 0, .ref q9, .int 0, .ref (u10 14), .ref (u11 17)]))] ++ B11) := hD
  rewrite [hB11, hB10, hB9, hB8, hB7, hB6, hB5, hB4, hB3, hB2, hB1, hB0] at hP hD
  have hP9 : va_P D vwCl (xb cI cB cZ cQ (xj (xj (xj (xj (xj (xj (xj (xj (xj (xj (xj (fun _ => h0) 5 (fun _ => q1)) 6 (fun _ => q2)) 7 (fun _ => q3)) 8 (fun _ => q4)) 9 (fun _ => q5)) 10 (fun _ => q6)) 11 (fun _ => q7)) 12 (fun _ => q8)) 13 (fun _ => q9)) 14 u10) 17 u11) 4 16) H := hP
  have hD9 : va_D A (xb cI cB cZ cQ (xj (xj (xj (xj (xj (xj (xj (xj (xj (xj (xj (fun _ => h0) 5 (fun _ => q1)) 6 (fun _ => q2)) 7 (fun _ => q3)) 8 (fun _ => q4)) 9 (fun _ => q5)) 10 (fun _ => q6)) 11 (fun _ => q7)) 12 (fun _ => q8)) 13 (fun _ => q9)) 14 u10) 17 u11) 4 16) := hD
  exact W.vret hx hb hr (fun t ht hW => ⟨⟨(xj (xj (xj (xj (xj (xj (xj (xj (xj (xj (xj (fun _ => h0) 5 (fun _ => q1)) 6 (fun _ => q2)) 7 (fun _ => q3)) 8 (fun _ => q4)) 9 (fun _ => q5)) 10 (fun _ => q6)) 11 (fun _ => q7)) 12 (fun _ => q8)) 13 (fun _ => q9)) 14 u10) 17 u11), rfl, trivial, rfl, by rw [ht]; exact hP9, va_K.moved hW.alike hK, hD9⟩, hS.F ht⟩) hS.2.2 dX9_init_120 hlocks
set_option maxHeartbeats 4000000 in
set_option maxRecDepth 100000 in
theorem kg_7 (l : Launch) (D : va_G) (cI cB cZ cQ : ClassId) (h0 : Nat) (b : Nat) (ws : (Nat → Nat) → va_W) (hws : ∀ q1 q2 q3 q4 : Nat, ∃ u : Nat → Nat, u b = h0 ∧ ws u = [(h0, .inr (7, [.int 0, .int 0, .ref q1, .ref q2, .ref q3, .ref q4])), (q1, .inl (cI, 6, .inl (fun _ => 0))), (q2, .inl (cI, 6, .inl (fun _ => 0))), (q3, .inl (cI, 6, .inl (fun _ => 0))), (q4, .inl (cI, 6, .inl (fun _ => 0)))]) : cM l yX7_init cX7_init 1 1 4 24 D (xtys cI cB cZ cQ) [.ref h0] [(h0, .inr (7, [.int 0, .int 0, .null, .null, .null, .null]))] b h0 ws := by
  intro sz
  refine Met.ofW (cc := cX7_init) (maxL := 1) (ret := none) (by decide) rfl ?_
  intro p e s m args below meth c s₁ B hml hv
  obtain ⟨rfl, hsz, hP, hK, hD0, hN, hAO⟩ := hv
  have hx := B.exec
  have hb := B.bytes
  have hr := B.returns
  have hts : ∀ w ∈ gT, w.before _ s = true := fun w h => atoms_spec (ws := Cond.code yX7_init cX7_init 1 none :: gT) B.pre w (List.mem_cons_of_mem _ h)
  have hown : s.vm.findClass RX7 = some m.cls := findClass_of_methodNamed B.named
  have hlocks := B.notSynchronized
  have hin : meth.name = "<init>" := (name_of_methodNamed B.named B.method).1
  subst hsz
  have hD := hD0.self (sz := s.heap.size)
  generalize hAe : va_A [(h0, .inr (7, [.int 0, .int 0, .null, .null, .null, .null]))] s.heap.size = A at hD ⊢
  have hA : ∀ q : Nat, s.heap.size ≤ q → A q := fun q h => by rw [← hAe]; exact Or.inr h
  have hS : va_S A s.heap s.heap [] := va_S.rf
  have hl := lv_entry ([.ref h0]) (n := 1) (Nat.le_of_ble_eq_true rfl)
  rw [lg_entry_eq]
  generalize (lg_sl ([.ref h0]) ++ List.replicate (1 - (lg_sl ([.ref h0])).length) Slot.unset).toArray = ls at hl ⊢
  have hl : lv_has ls 1 [(0, .ref h0)] := hl
  obtain ⟨B0, hB0⟩ : ∃ z : va_W, z = [] := ⟨_, rfl⟩
  have hP : va_P D vwCl ([(h0, .inr (7, [.int 0, .int 0, .null, .null, .null, .null]))] ++ B0) s.heap := by rw [hB0]; exact hP
  have hD : va_D A ([(h0, .inr (7, [.int 0, .int 0, .null, .null, .null, .null]))] ++ B0) := by rw [hB0]; exact hD
  refine lv_aload_n hx hb dX7_init_0 rfl (lv_at hl 0 rfl) ?_
  refine W.objInit hx hb hown (hts _ c_oi7) (hts _ c_ob.1) (hts _ c_ob.2) rfl (by rw [hml]; exact hl.1) rfl dX7_init_1 (Nat.le_of_ble_eq_true rfl) (Nat.le_of_ble_eq_true rfl) ?_
  refine W.eq (g2 := F0 m 4 ls []) rfl ?_
  refine lv_aload_n hx hb dX7_init_4 rfl (lv_at hl 0 rfl) ?_
  refine lv_iconst (v := 0) hx hb dX7_init_5 (by decide) ?_
  refine va_put (D := D) (ci := 7) (v := .int 0) (ty := tyX7 0) (C := RX7) (T := TX7) (N := 6) hx hb hts x_in7 tyX7 tyX7_ok nmX7 hown hK hP hD hS 0 rfl rfl 0 (by decide) (hts _ xl_X7_9) (fun _ h9 => h9) rfl (tyX7_ok 0 (by decide)) rfl rfl (Nat.le_of_ble_eq_true rfl) dX7_init_6 (fun H locs hP hD hS => ?_)
  have hP : va_P D vwCl ([(h0, .inr (7, [.int 0, .int 0, .null, .null, .null, .null]))] ++ B0) H := hP
  have hD : va_D A ([(h0, .inr (7, [.int 0, .int 0, .null, .null, .null, .null]))] ++ B0) := hD
  refine lv_aload_n hx hb dX7_init_9 rfl (lv_at hl 0 rfl) ?_
  refine lv_iconst (v := 0) hx hb dX7_init_10 (by decide) ?_
  refine va_put (D := D) (ci := 7) (v := .int 0) (ty := tyX7 1) (C := RX7) (T := TX7) (N := 6) hx hb hts x_in7 tyX7 tyX7_ok nmX7 hown hK hP hD hS 0 rfl rfl 1 (by decide) (hts _ xl_X7_15) (fun _ h9 => h9) rfl (tyX7_ok 1 (by decide)) rfl rfl (Nat.le_of_ble_eq_true rfl) dX7_init_11 (fun H locs hP hD hS => ?_)
  have hP : va_P D vwCl ([(h0, .inr (7, [.int 0, .int 0, .null, .null, .null, .null]))] ++ B0) H := hP
  have hD : va_D A ([(h0, .inr (7, [.int 0, .int 0, .null, .null, .null, .null]))] ++ B0) := hD
  refine lv_aload_n hx hb dX7_init_14 rfl (lv_at hl 0 rfl) ?_
  refine lv_bipush (v := 6) hx hb dX7_init_15 (by decide) ?_
  refine c_newa (atype := .int) (a0 := (6, .inl (fun _ => 0))) hx hb (hts _ c_ac_int) rfl (fun _ h => by cases h) hK (t0 := 0) rfl hP hD hS hA (fun _ => rfl) (by decide) (by decide) (Nat.le_of_ble_eq_true rfl) (Nat.le_of_ble_eq_true rfl) (Nat.le_of_ble_eq_true rfl) dX7_init_17 (fun q1 H hP hD hS => ?_)
  have hP : va_P D vwCl ([(h0, .inr (7, [.int 0, .int 0, .null, .null, .null, .null]))] ++ (B0 ++ [(q1, .inl (cI, 6, .inl (fun _ => 0)))])) H := by rw [← List.append_assoc]; exact hP
  have hD : va_D A ([(h0, .inr (7, [.int 0, .int 0, .null, .null, .null, .null]))] ++ (B0 ++ [(q1, .inl (cI, 6, .inl (fun _ => 0)))])) := by rw [← List.append_assoc]; exact hD
  obtain ⟨B1, hB1⟩ : ∃ z : va_W, z = B0 ++ [(q1, .inl (cI, 6, .inl (fun _ => 0)))] := ⟨_, rfl⟩
  rewrite [← hB1] at hP hD
  refine W.widen (k := 1) (n := 6) (Nat.le_of_ble_eq_true rfl) (Nat.le_of_ble_eq_true rfl) ?_
  refine va_putF (D := D) (ci := 7) (v := .ref q1) (ty := tyX7 2) (C := RX7) (T := TX7) (N := 6) hx hb hts x_in7 tyX7 tyX7_ok nmX7 hown hK hP hD hS 0 rfl rfl 2 (by decide) (hts _ xl_X7_18) (fun _ h9 => h9) rfl hin rfl (tyX7_ok 2 (by decide)) rfl rfl (Nat.le_of_ble_eq_true rfl) dX7_init_19 (fun H locs hP hD hS => ?_)
  have hP : va_P D vwCl ([(h0, .inr (7, [.int 0, .int 0, .ref q1, .null, .null, .null]))] ++ B1) H := hP
  have hD : va_D A ([(h0, .inr (7, [.int 0, .int 0, .ref q1, .null, .null, .null]))] ++ B1) := hD
  refine lv_aload_n hx hb dX7_init_22 rfl (lv_at hl 0 rfl) ?_
  refine lv_bipush (v := 6) hx hb dX7_init_23 (by decide) ?_
  refine c_newa (atype := .int) (a0 := (6, .inl (fun _ => 0))) hx hb (hts _ c_ac_int) rfl (fun _ h => by cases h) hK (t0 := 0) rfl hP hD hS hA (fun _ => rfl) (by decide) (by decide) (Nat.le_of_ble_eq_true rfl) (Nat.le_of_ble_eq_true rfl) (Nat.le_of_ble_eq_true rfl) dX7_init_25 (fun q2 H hP hD hS => ?_)
  have hP : va_P D vwCl ([(h0, .inr (7, [.int 0, .int 0, .ref q1, .null, .null, .null]))] ++ (B1 ++ [(q2, .inl (cI, 6, .inl (fun _ => 0)))])) H := by rw [← List.append_assoc]; exact hP
  have hD : va_D A ([(h0, .inr (7, [.int 0, .int 0, .ref q1, .null, .null, .null]))] ++ (B1 ++ [(q2, .inl (cI, 6, .inl (fun _ => 0)))])) := by rw [← List.append_assoc]; exact hD
  obtain ⟨B2, hB2⟩ : ∃ z : va_W, z = B1 ++ [(q2, .inl (cI, 6, .inl (fun _ => 0)))] := ⟨_, rfl⟩
  rewrite [← hB2] at hP hD
  refine W.widen (k := 2) (n := 12) (Nat.le_of_ble_eq_true rfl) (Nat.le_of_ble_eq_true rfl) ?_
  refine va_putF (D := D) (ci := 7) (v := .ref q2) (ty := tyX7 3) (C := RX7) (T := TX7) (N := 6) hx hb hts x_in7 tyX7 tyX7_ok nmX7 hown hK hP hD hS 0 rfl rfl 3 (by decide) (hts _ xl_X7_22) (fun _ h9 => h9) rfl hin rfl (tyX7_ok 3 (by decide)) rfl rfl (Nat.le_of_ble_eq_true rfl) dX7_init_27 (fun H locs hP hD hS => ?_)
  have hP : va_P D vwCl ([(h0, .inr (7, [.int 0, .int 0, .ref q1, .ref q2, .null, .null]))] ++ B2) H := hP
  have hD : va_D A ([(h0, .inr (7, [.int 0, .int 0, .ref q1, .ref q2, .null, .null]))] ++ B2) := hD
  refine lv_aload_n hx hb dX7_init_30 rfl (lv_at hl 0 rfl) ?_
  refine lv_bipush (v := 6) hx hb dX7_init_31 (by decide) ?_
  refine c_newa (atype := .int) (a0 := (6, .inl (fun _ => 0))) hx hb (hts _ c_ac_int) rfl (fun _ h => by cases h) hK (t0 := 0) rfl hP hD hS hA (fun _ => rfl) (by decide) (by decide) (Nat.le_of_ble_eq_true rfl) (Nat.le_of_ble_eq_true rfl) (Nat.le_of_ble_eq_true rfl) dX7_init_33 (fun q3 H hP hD hS => ?_)
  have hP : va_P D vwCl ([(h0, .inr (7, [.int 0, .int 0, .ref q1, .ref q2, .null, .null]))] ++ (B2 ++ [(q3, .inl (cI, 6, .inl (fun _ => 0)))])) H := by rw [← List.append_assoc]; exact hP
  have hD : va_D A ([(h0, .inr (7, [.int 0, .int 0, .ref q1, .ref q2, .null, .null]))] ++ (B2 ++ [(q3, .inl (cI, 6, .inl (fun _ => 0)))])) := by rw [← List.append_assoc]; exact hD
  obtain ⟨B3, hB3⟩ : ∃ z : va_W, z = B2 ++ [(q3, .inl (cI, 6, .inl (fun _ => 0)))] := ⟨_, rfl⟩
  rewrite [← hB3] at hP hD
  refine W.widen (k := 3) (n := 18) (Nat.le_of_ble_eq_true rfl) (Nat.le_of_ble_eq_true rfl) ?_
  refine va_putF (D := D) (ci := 7) (v := .ref q3) (ty := tyX7 4) (C := RX7) (T := TX7) (N := 6) hx hb hts x_in7 tyX7 tyX7_ok nmX7 hown hK hP hD hS 0 rfl rfl 4 (by decide) (hts _ xl_X7_25) (fun _ h9 => h9) rfl hin rfl (tyX7_ok 4 (by decide)) rfl rfl (Nat.le_of_ble_eq_true rfl) dX7_init_35 (fun H locs hP hD hS => ?_)
  have hP : va_P D vwCl ([(h0, .inr (7, [.int 0, .int 0, .ref q1, .ref q2, .ref q3, .null]))] ++ B3) H := hP
  have hD : va_D A ([(h0, .inr (7, [.int 0, .int 0, .ref q1, .ref q2, .ref q3, .null]))] ++ B3) := hD
  refine lv_aload_n hx hb dX7_init_38 rfl (lv_at hl 0 rfl) ?_
  refine lv_bipush (v := 6) hx hb dX7_init_39 (by decide) ?_
  refine c_newa (atype := .int) (a0 := (6, .inl (fun _ => 0))) hx hb (hts _ c_ac_int) rfl (fun _ h => by cases h) hK (t0 := 0) rfl hP hD hS hA (fun _ => rfl) (by decide) (by decide) (Nat.le_of_ble_eq_true rfl) (Nat.le_of_ble_eq_true rfl) (Nat.le_of_ble_eq_true rfl) dX7_init_41 (fun q4 H hP hD hS => ?_)
  have hP : va_P D vwCl ([(h0, .inr (7, [.int 0, .int 0, .ref q1, .ref q2, .ref q3, .null]))] ++ (B3 ++ [(q4, .inl (cI, 6, .inl (fun _ => 0)))])) H := by rw [← List.append_assoc]; exact hP
  have hD : va_D A ([(h0, .inr (7, [.int 0, .int 0, .ref q1, .ref q2, .ref q3, .null]))] ++ (B3 ++ [(q4, .inl (cI, 6, .inl (fun _ => 0)))])) := by rw [← List.append_assoc]; exact hD
  obtain ⟨B4, hB4⟩ : ∃ z : va_W, z = B3 ++ [(q4, .inl (cI, 6, .inl (fun _ => 0)))] := ⟨_, rfl⟩
  rewrite [← hB4] at hP hD
  refine W.widen (k := 4) (n := 24) (Nat.le_of_ble_eq_true rfl) (Nat.le_of_ble_eq_true rfl) ?_
  refine va_putF (D := D) (ci := 7) (v := .ref q4) (ty := tyX7 5) (C := RX7) (T := TX7) (N := 6) hx hb hts x_in7 tyX7 tyX7_ok nmX7 hown hK hP hD hS 0 rfl rfl 5 (by decide) (hts _ xl_X7_28) (fun _ h9 => h9) rfl hin rfl (tyX7_ok 5 (by decide)) rfl rfl (Nat.le_of_ble_eq_true rfl) dX7_init_43 (fun H locs hP hD hS => ?_)
  have hP : va_P D vwCl ([(h0, .inr (7, [.int 0, .int 0, .ref q1, .ref q2, .ref q3, .ref q4]))] ++ B4) H := hP
  have hD : va_D A ([(h0, .inr (7, [.int 0, .int 0, .ref q1, .ref q2, .ref q3, .ref q4]))] ++ B4) := hD
  rewrite [hB4, hB3, hB2, hB1, hB0] at hP hD
  obtain ⟨u, hu, hwe⟩ := hws q1 q2 q3 q4
  have hP9 : va_P D vwCl (ws u) H := by rewrite [hwe]; exact hP
  have hD9 : va_D A (ws u) := by rewrite [hwe]; exact hD
  exact W.vret hx hb hr (fun t ht hW => ⟨⟨u, rfl, trivial, hu, by rw [ht]; exact hP9, va_K.moved hW.alike hK, hD9⟩, hS.F ht⟩) hS.2.2 dX7_init_46 hlocks
theorem kc_7_21 (l : Launch) (D : va_G) (cI cB cZ cQ : ClassId) (h0 : Nat) : cM l yX7_init cX7_init 1 1 4 24 D (xtys cI cB cZ cQ) [.ref h0] [(h0, .inr (7, [.int 0, .int 0, .null, .null, .null, .null]))] 21 h0 (fun u => xb cI cB cZ cQ u 21 5) :=
  kg_7 l D cI cB cZ cQ h0 21 _ (fun q1 q2 q3 q4 => ⟨(xj (xj (xj (xj (fun _ => h0) 22 (fun _ => q1)) 23 (fun _ => q2)) 24 (fun _ => q3)) 25 (fun _ => q4)), rfl, rfl⟩)
set_option maxHeartbeats 4000000 in
set_option maxRecDepth 100000 in
theorem kg_0 (l : Launch) (D : va_G) (cI cB cZ cQ : ClassId) (h0 : Nat) (b : Nat) (ws : (Nat → Nat) → va_W) (hws : ∀ q1 : Nat, ∃ u : Nat → Nat, u b = h0 ∧ ws u = [(h0, .inr (0, [.ref q1, .int 0])), (q1, .inl (cI, 1040, .inl (fun _ => 0)))]) : cM l yX0_init cX0_init 1 1 1 1040 D (xtys cI cB cZ cQ) [.ref h0] [(h0, .inr (0, [.null, .int 0]))] b h0 ws := by
  intro sz
  refine Met.ofW (cc := cX0_init) (maxL := 1) (ret := none) (by decide) rfl ?_
  intro p e s m args below meth c s₁ B hml hv
  obtain ⟨rfl, hsz, hP, hK, hD0, hN, hAO⟩ := hv
  have hx := B.exec
  have hb := B.bytes
  have hr := B.returns
  have hts : ∀ w ∈ gT, w.before _ s = true := fun w h => atoms_spec (ws := Cond.code yX0_init cX0_init 1 none :: gT) B.pre w (List.mem_cons_of_mem _ h)
  have hown : s.vm.findClass RX0 = some m.cls := findClass_of_methodNamed B.named
  have hlocks := B.notSynchronized
  have hin : meth.name = "<init>" := (name_of_methodNamed B.named B.method).1
  subst hsz
  have hD := hD0.self (sz := s.heap.size)
  generalize hAe : va_A [(h0, .inr (0, [.null, .int 0]))] s.heap.size = A at hD ⊢
  have hA : ∀ q : Nat, s.heap.size ≤ q → A q := fun q h => by rw [← hAe]; exact Or.inr h
  have hS : va_S A s.heap s.heap [] := va_S.rf
  have hl := lv_entry ([.ref h0]) (n := 1) (Nat.le_of_ble_eq_true rfl)
  rw [lg_entry_eq]
  generalize (lg_sl ([.ref h0]) ++ List.replicate (1 - (lg_sl ([.ref h0])).length) Slot.unset).toArray = ls at hl ⊢
  have hl : lv_has ls 1 [(0, .ref h0)] := hl
  obtain ⟨B0, hB0⟩ : ∃ z : va_W, z = [] := ⟨_, rfl⟩
  have hP : va_P D vwCl ([(h0, .inr (0, [.null, .int 0]))] ++ B0) s.heap := by rw [hB0]; exact hP
  have hD : va_D A ([(h0, .inr (0, [.null, .int 0]))] ++ B0) := by rw [hB0]; exact hD
  refine lv_aload_n hx hb dX0_init_0 rfl (lv_at hl 0 rfl) ?_
  refine W.objInit hx hb hown (hts _ c_oi0) (hts _ c_ob.1) (hts _ c_ob.2) rfl (by rw [hml]; exact hl.1) rfl dX0_init_1 (Nat.le_of_ble_eq_true rfl) (Nat.le_of_ble_eq_true rfl) ?_
  refine W.eq (g2 := F0 m 4 ls []) rfl ?_
  refine lv_aload_n hx hb dX0_init_4 rfl (lv_at hl 0 rfl) ?_
  refine lv_sipush (v := 1040) hx hb dX0_init_5 (by decide) ?_
  refine c_newa (atype := .int) (a0 := (1040, .inl (fun _ => 0))) hx hb (hts _ c_ac_int) rfl (fun _ h => by cases h) hK (t0 := 0) rfl hP hD hS hA (fun _ => rfl) (by decide) (by decide) (Nat.le_of_ble_eq_true rfl) (Nat.le_of_ble_eq_true rfl) (Nat.le_of_ble_eq_true rfl) dX0_init_8 (fun q1 H hP hD hS => ?_)
  have hP : va_P D vwCl ([(h0, .inr (0, [.null, .int 0]))] ++ (B0 ++ [(q1, .inl (cI, 1040, .inl (fun _ => 0)))])) H := by rw [← List.append_assoc]; exact hP
  have hD : va_D A ([(h0, .inr (0, [.null, .int 0]))] ++ (B0 ++ [(q1, .inl (cI, 1040, .inl (fun _ => 0)))])) := by rw [← List.append_assoc]; exact hD
  obtain ⟨B1, hB1⟩ : ∃ z : va_W, z = B0 ++ [(q1, .inl (cI, 1040, .inl (fun _ => 0)))] := ⟨_, rfl⟩
  rewrite [← hB1] at hP hD
  refine W.widen (k := 1) (n := 1040) (Nat.le_of_ble_eq_true rfl) (Nat.le_of_ble_eq_true rfl) ?_
  refine va_putF (D := D) (ci := 0) (v := .ref q1) (ty := tyX0 0) (C := RX0) (T := TX0) (N := 2) hx hb hts x_in0 tyX0 tyX0_ok nmX0 hown hK hP hD hS 0 rfl rfl 0 (by decide) (hts _ xl_X0_11) (fun _ h9 => h9) rfl hin rfl (tyX0_ok 0 (by decide)) rfl rfl (Nat.le_of_ble_eq_true rfl) dX0_init_10 (fun H locs hP hD hS => ?_)
  have hP : va_P D vwCl ([(h0, .inr (0, [.ref q1, .int 0]))] ++ B1) H := hP
  have hD : va_D A ([(h0, .inr (0, [.ref q1, .int 0]))] ++ B1) := hD
  refine lv_aload_n hx hb dX0_init_13 rfl (lv_at hl 0 rfl) ?_
  refine lv_iconst (v := 0) hx hb dX0_init_14 (by decide) ?_
  refine va_put (D := D) (ci := 0) (v := .int 0) (ty := tyX0 1) (C := RX0) (T := TX0) (N := 2) hx hb hts x_in0 tyX0 tyX0_ok nmX0 hown hK hP hD hS 0 rfl rfl 1 (by decide) (hts _ xl_X0_17) (fun _ h9 => h9) rfl (tyX0_ok 1 (by decide)) rfl rfl (Nat.le_of_ble_eq_true rfl) dX0_init_15 (fun H locs hP hD hS => ?_)
  have hP : va_P D vwCl ([(h0, .inr (0, [.ref q1, .int 0]))] ++ B1) H := hP
  have hD : va_D A ([(h0, .inr (0, [.ref q1, .int 0]))] ++ B1) := hD
  rewrite [hB1, hB0] at hP hD
  obtain ⟨u, hu, hwe⟩ := hws q1
  have hP9 : va_P D vwCl (ws u) H := by rewrite [hwe]; exact hP
  have hD9 : va_D A (ws u) := by rewrite [hwe]; exact hD
  exact W.vret hx hb hr (fun t ht hW => ⟨⟨u, rfl, trivial, hu, by rw [ht]; exact hP9, va_K.moved hW.alike hK, hD9⟩, hS.F ht⟩) hS.2.2 dX0_init_18 hlocks
theorem kc_0_26 (l : Launch) (D : va_G) (cI cB cZ cQ : ClassId) (h0 : Nat) : cM l yX0_init cX0_init 1 1 1 1040 D (xtys cI cB cZ cQ) [.ref h0] [(h0, .inr (0, [.null, .int 0]))] 26 h0 (fun u => xb cI cB cZ cQ u 26 2) :=
  kg_0 l D cI cB cZ cQ h0 26 _ (fun q1 => ⟨(xj (fun _ => h0) 27 (fun _ => q1)), rfl, rfl⟩)
set_option maxHeartbeats 4000000 in
set_option maxRecDepth 100000 in
theorem kg_5 (l : Launch) (D : va_G) (cI cB cZ cQ : ClassId) (h0 : Nat) (b : Nat) (ws : (Nat → Nat) → va_W) (hws : ∀ q1 q2 q3 : Nat, ∃ u : Nat → Nat, u b = h0 ∧ ws u = [(h0, .inr (5, [.ref q1, .ref q2, .ref q3, .int 0])), (q1, .inl (cI, 8, .inl (fun _ => 0))), (q2, .inl (cI, 8, .inl (fun _ => 0))), (q3, .inl (cI, 8, .inl (fun _ => 0)))]) : cM l yX5_init cX5_init 1 1 3 24 D (xtys cI cB cZ cQ) [.ref h0] [(h0, .inr (5, [.null, .null, .null, .int 0]))] b h0 ws := by
  intro sz
  refine Met.ofW (cc := cX5_init) (maxL := 1) (ret := none) (by decide) rfl ?_
  intro p e s m args below meth c s₁ B hml hv
  obtain ⟨rfl, hsz, hP, hK, hD0, hN, hAO⟩ := hv
  have hx := B.exec
  have hb := B.bytes
  have hr := B.returns
  have hts : ∀ w ∈ gT, w.before _ s = true := fun w h => atoms_spec (ws := Cond.code yX5_init cX5_init 1 none :: gT) B.pre w (List.mem_cons_of_mem _ h)
  have hown : s.vm.findClass RX5 = some m.cls := findClass_of_methodNamed B.named
  have hlocks := B.notSynchronized
  have hin : meth.name = "<init>" := (name_of_methodNamed B.named B.method).1
  subst hsz
  have hD := hD0.self (sz := s.heap.size)
  generalize hAe : va_A [(h0, .inr (5, [.null, .null, .null, .int 0]))] s.heap.size = A at hD ⊢
  have hA : ∀ q : Nat, s.heap.size ≤ q → A q := fun q h => by rw [← hAe]; exact Or.inr h
  have hS : va_S A s.heap s.heap [] := va_S.rf
  have hl := lv_entry ([.ref h0]) (n := 1) (Nat.le_of_ble_eq_true rfl)
  rw [lg_entry_eq]
  generalize (lg_sl ([.ref h0]) ++ List.replicate (1 - (lg_sl ([.ref h0])).length) Slot.unset).toArray = ls at hl ⊢
  have hl : lv_has ls 1 [(0, .ref h0)] := hl
  obtain ⟨B0, hB0⟩ : ∃ z : va_W, z = [] := ⟨_, rfl⟩
  have hP : va_P D vwCl ([(h0, .inr (5, [.null, .null, .null, .int 0]))] ++ B0) s.heap := by rw [hB0]; exact hP
  have hD : va_D A ([(h0, .inr (5, [.null, .null, .null, .int 0]))] ++ B0) := by rw [hB0]; exact hD
  refine lv_aload_n hx hb dX5_init_0 rfl (lv_at hl 0 rfl) ?_
  refine W.objInit hx hb hown (hts _ c_oi5) (hts _ c_ob.1) (hts _ c_ob.2) rfl (by rw [hml]; exact hl.1) rfl dX5_init_1 (Nat.le_of_ble_eq_true rfl) (Nat.le_of_ble_eq_true rfl) ?_
  refine W.eq (g2 := F0 m 4 ls []) rfl ?_
  refine lv_aload_n hx hb dX5_init_4 rfl (lv_at hl 0 rfl) ?_
  refine lv_bipush (v := 8) hx hb dX5_init_5 (by decide) ?_
  refine c_newa (atype := .int) (a0 := (8, .inl (fun _ => 0))) hx hb (hts _ c_ac_int) rfl (fun _ h => by cases h) hK (t0 := 0) rfl hP hD hS hA (fun _ => rfl) (by decide) (by decide) (Nat.le_of_ble_eq_true rfl) (Nat.le_of_ble_eq_true rfl) (Nat.le_of_ble_eq_true rfl) dX5_init_7 (fun q1 H hP hD hS => ?_)
  have hP : va_P D vwCl ([(h0, .inr (5, [.null, .null, .null, .int 0]))] ++ (B0 ++ [(q1, .inl (cI, 8, .inl (fun _ => 0)))])) H := by rw [← List.append_assoc]; exact hP
  have hD : va_D A ([(h0, .inr (5, [.null, .null, .null, .int 0]))] ++ (B0 ++ [(q1, .inl (cI, 8, .inl (fun _ => 0)))])) := by rw [← List.append_assoc]; exact hD
  obtain ⟨B1, hB1⟩ : ∃ z : va_W, z = B0 ++ [(q1, .inl (cI, 8, .inl (fun _ => 0)))] := ⟨_, rfl⟩
  rewrite [← hB1] at hP hD
  refine W.widen (k := 1) (n := 8) (Nat.le_of_ble_eq_true rfl) (Nat.le_of_ble_eq_true rfl) ?_
  refine va_putF (D := D) (ci := 5) (v := .ref q1) (ty := tyX5 0) (C := RX5) (T := TX5) (N := 4) hx hb hts x_in5 tyX5 tyX5_ok nmX5 hown hK hP hD hS 0 rfl rfl 0 (by decide) (hts _ xl_X5_9) (fun _ h9 => h9) rfl hin rfl (tyX5_ok 0 (by decide)) rfl rfl (Nat.le_of_ble_eq_true rfl) dX5_init_9 (fun H locs hP hD hS => ?_)
  have hP : va_P D vwCl ([(h0, .inr (5, [.ref q1, .null, .null, .int 0]))] ++ B1) H := hP
  have hD : va_D A ([(h0, .inr (5, [.ref q1, .null, .null, .int 0]))] ++ B1) := hD
  refine lv_aload_n hx hb dX5_init_12 rfl (lv_at hl 0 rfl) ?_
  refine lv_bipush (v := 8) hx hb dX5_init_13 (by decide) ?_
  refine c_newa (atype := .int) (a0 := (8, .inl (fun _ => 0))) hx hb (hts _ c_ac_int) rfl (fun _ h => by cases h) hK (t0 := 0) rfl hP hD hS hA (fun _ => rfl) (by decide) (by decide) (Nat.le_of_ble_eq_true rfl) (Nat.le_of_ble_eq_true rfl) (Nat.le_of_ble_eq_true rfl) dX5_init_15 (fun q2 H hP hD hS => ?_)
  have hP : va_P D vwCl ([(h0, .inr (5, [.ref q1, .null, .null, .int 0]))] ++ (B1 ++ [(q2, .inl (cI, 8, .inl (fun _ => 0)))])) H := by rw [← List.append_assoc]; exact hP
  have hD : va_D A ([(h0, .inr (5, [.ref q1, .null, .null, .int 0]))] ++ (B1 ++ [(q2, .inl (cI, 8, .inl (fun _ => 0)))])) := by rw [← List.append_assoc]; exact hD
  obtain ⟨B2, hB2⟩ : ∃ z : va_W, z = B1 ++ [(q2, .inl (cI, 8, .inl (fun _ => 0)))] := ⟨_, rfl⟩
  rewrite [← hB2] at hP hD
  refine W.widen (k := 2) (n := 16) (Nat.le_of_ble_eq_true rfl) (Nat.le_of_ble_eq_true rfl) ?_
  refine va_putF (D := D) (ci := 5) (v := .ref q2) (ty := tyX5 1) (C := RX5) (T := TX5) (N := 4) hx hb hts x_in5 tyX5 tyX5_ok nmX5 hown hK hP hD hS 0 rfl rfl 1 (by decide) (hts _ xl_X5_15) (fun _ h9 => h9) rfl hin rfl (tyX5_ok 1 (by decide)) rfl rfl (Nat.le_of_ble_eq_true rfl) dX5_init_17 (fun H locs hP hD hS => ?_)
  have hP : va_P D vwCl ([(h0, .inr (5, [.ref q1, .ref q2, .null, .int 0]))] ++ B2) H := hP
  have hD : va_D A ([(h0, .inr (5, [.ref q1, .ref q2, .null, .int 0]))] ++ B2) := hD
  refine lv_aload_n hx hb dX5_init_20 rfl (lv_at hl 0 rfl) ?_
  refine lv_bipush (v := 8) hx hb dX5_init_21 (by decide) ?_
  refine c_newa (atype := .int) (a0 := (8, .inl (fun _ => 0))) hx hb (hts _ c_ac_int) rfl (fun _ h => by cases h) hK (t0 := 0) rfl hP hD hS hA (fun _ => rfl) (by decide) (by decide) (Nat.le_of_ble_eq_true rfl) (Nat.le_of_ble_eq_true rfl) (Nat.le_of_ble_eq_true rfl) dX5_init_23 (fun q3 H hP hD hS => ?_)
  have hP : va_P D vwCl ([(h0, .inr (5, [.ref q1, .ref q2, .null, .int 0]))] ++ (B2 ++ [(q3, .inl (cI, 8, .inl (fun _ => 0)))])) H := by rw [← List.append_assoc]; exact hP
  have hD : va_D A ([(h0, .inr (5, [.ref q1, .ref q2, .null, .int 0]))] ++ (B2 ++ [(q3, .inl (cI, 8, .inl (fun _ => 0)))])) := by rw [← List.append_assoc]; exact hD
  obtain ⟨B3, hB3⟩ : ∃ z : va_W, z = B2 ++ [(q3, .inl (cI, 8, .inl (fun _ => 0)))] := ⟨_, rfl⟩
  rewrite [← hB3] at hP hD
  refine W.widen (k := 3) (n := 24) (Nat.le_of_ble_eq_true rfl) (Nat.le_of_ble_eq_true rfl) ?_
  refine va_putF (D := D) (ci := 5) (v := .ref q3) (ty := tyX5 2) (C := RX5) (T := TX5) (N := 4) hx hb hts x_in5 tyX5 tyX5_ok nmX5 hown hK hP hD hS 0 rfl rfl 2 (by decide) (hts _ xl_X5_18) (fun _ h9 => h9) rfl hin rfl (tyX5_ok 2 (by decide)) rfl rfl (Nat.le_of_ble_eq_true rfl) dX5_init_25 (fun H locs hP hD hS => ?_)
  have hP : va_P D vwCl ([(h0, .inr (5, [.ref q1, .ref q2, .ref q3, .int 0]))] ++ B3) H := hP
  have hD : va_D A ([(h0, .inr (5, [.ref q1, .ref q2, .ref q3, .int 0]))] ++ B3) := hD
  refine lv_aload_n hx hb dX5_init_28 rfl (lv_at hl 0 rfl) ?_
  refine lv_iconst (v := 0) hx hb dX5_init_29 (by decide) ?_
  refine va_put (D := D) (ci := 5) (v := .int 0) (ty := tyX5 3) (C := RX5) (T := TX5) (N := 4) hx hb hts x_in5 tyX5 tyX5_ok nmX5 hown hK hP hD hS 0 rfl rfl 3 (by decide) (hts _ xl_X5_21) (fun _ h9 => h9) rfl (tyX5_ok 3 (by decide)) rfl rfl (Nat.le_of_ble_eq_true rfl) dX5_init_30 (fun H locs hP hD hS => ?_)
  have hP : va_P D vwCl ([(h0, .inr (5, [.ref q1, .ref q2, .ref q3, .int 0]))] ++ B3) H := hP
  have hD : va_D A ([(h0, .inr (5, [.ref q1, .ref q2, .ref q3, .int 0]))] ++ B3) := hD
  rewrite [hB3, hB2, hB1, hB0] at hP hD
  obtain ⟨u, hu, hwe⟩ := hws q1 q2 q3
  have hP9 : va_P D vwCl (ws u) H := by rewrite [hwe]; exact hP
  have hD9 : va_D A (ws u) := by rewrite [hwe]; exact hD
  exact W.vret hx hb hr (fun t ht hW => ⟨⟨u, rfl, trivial, hu, by rw [ht]; exact hP9, va_K.moved hW.alike hK, hD9⟩, hS.F ht⟩) hS.2.2 dX5_init_33 hlocks
theorem kc_5_28 (l : Launch) (D : va_G) (cI cB cZ cQ : ClassId) (h0 : Nat) : cM l yX5_init cX5_init 1 1 3 24 D (xtys cI cB cZ cQ) [.ref h0] [(h0, .inr (5, [.null, .null, .null, .int 0]))] 28 h0 (fun u => xb cI cB cZ cQ u 28 4) :=
  kg_5 l D cI cB cZ cQ h0 28 _ (fun q1 q2 q3 => ⟨(xj (xj (xj (fun _ => h0) 29 (fun _ => q1)) 30 (fun _ => q2)) 31 (fun _ => q3)), rfl, rfl⟩)
set_option maxHeartbeats 4000000 in
set_option maxRecDepth 100000 in
theorem kc_1_20 (l : Launch) (D : va_G) (cI cB cZ cQ : ClassId) (h0 : Nat) : cM l yX1_init cX1_init 1 2 12 1103 D (xtys cI cB cZ cQ) [.ref h0] [(h0, .inr (1, [.null, .null, .null, .null]))] 20 h0 (fun u => xb cI cB cZ cQ u 20 13) := by
  intro sz
  refine Met.ofW (cc := cX1_init) (maxL := 1) (ret := none) (by decide) rfl ?_
  intro p e s m args below meth c s₁ B hml hv
  obtain ⟨rfl, hsz, hP, hK, hD0, hN, hAO⟩ := hv
  have hx := B.exec
  have hb := B.bytes
  have hr := B.returns
  have hts : ∀ w ∈ gT, w.before _ s = true := fun w h => atoms_spec (ws := Cond.code yX1_init cX1_init 1 none :: gT) B.pre w (List.mem_cons_of_mem _ h)
  have hown : s.vm.findClass RX1 = some m.cls := findClass_of_methodNamed B.named
  have hlocks := B.notSynchronized
  have hin : meth.name = "<init>" := (name_of_methodNamed B.named B.method).1
  subst hsz
  have hD := hD0.self (sz := s.heap.size)
  generalize hAe : va_A [(h0, .inr (1, [.null, .null, .null, .null]))] s.heap.size = A at hD ⊢
  have hA : ∀ q : Nat, s.heap.size ≤ q → A q := fun q h => by rw [← hAe]; exact Or.inr h
  have hS : va_S A s.heap s.heap [] := va_S.rf
  have hl := lv_entry ([.ref h0]) (n := 1) (Nat.le_of_ble_eq_true rfl)
  rw [lg_entry_eq]
  generalize (lg_sl ([.ref h0]) ++ List.replicate (1 - (lg_sl ([.ref h0])).length) Slot.unset).toArray = ls at hl ⊢
  have hl : lv_has ls 1 [(0, .ref h0)] := hl
  obtain ⟨B0, hB0⟩ : ∃ z : va_W, z = [] := ⟨_, rfl⟩
  have hP : va_P D vwCl ([(h0, .inr (1, [.null, .null, .null, .null]))] ++ B0) s.heap := by rw [hB0]; exact hP
  have hD : va_D A ([(h0, .inr (1, [.null, .null, .null, .null]))] ++ B0) := by rw [hB0]; exact hD
  refine lv_aload_n hx hb dX1_init_0 rfl (lv_at hl 0 rfl) ?_
  refine W.objInit hx hb hown (hts _ c_oi1) (hts _ c_ob.1) (hts _ c_ob.2) rfl (by rw [hml]; exact hl.1) rfl dX1_init_1 (Nat.le_of_ble_eq_true rfl) (Nat.le_of_ble_eq_true rfl) ?_
  refine W.eq (g2 := F0 m 4 ls []) rfl ?_
  refine lv_aload_n hx hb dX1_init_4 rfl (lv_at hl 0 rfl) ?_
  refine va_new (ci := 7) (fs := [.int 0, .int 0, .null, .null, .null, .null]) (C := RX7) (T := TX7) (N := 6) hx hb hts x_in7 tyX7 tyX7_ok hown (hts _ c_cl1_9) (hts _ c_is7.1) (hts _ c_is7.2) hK hP hD hS hA rfl c_df7 (Nat.le_of_ble_eq_true rfl) (Nat.le_of_ble_eq_true rfl) dX1_init_5 (fun q1 H hP hD hS => ?_)
  refine W.widen (k := 1) (n := 6) (Nat.le_of_ble_eq_true rfl) (Nat.le_of_ble_eq_true rfl) ?_
  refine lv_dup hx hb dX1_init_8 rfl ?_
  have hPc : va_P D vwCl [(q1, .inr (7, [.int 0, .int 0, .null, .null, .null, .null]))] H := c_right hP
  have hDc : va_D A [(q1, .inr (7, [.int 0, .int 0, .null, .null, .null, .null]))] := c_rightD hD
  have hFc := c_free (wc := [(q1, .inr (7, [.int 0, .int 0, .null, .null, .null, .null]))]) hD hS hA
  refine va_callv (va_runIN (As := []) (rest := [.ref q1, .ref h0]) ⟨hx, hb, hml, hown, hts⟩ (kc_7_21 l D cI cB cZ cQ q1 H.size) ⟨va_cnB (host := "GrottoHours") 0 hts (gT_in (fun w h => (List.mem_cons.mp h).elim (fun e => e ▸ c_cw7.1) id)) rfl rfl rfl (hN _ (List.mem_of_getElem? (i := 51) rfl)) (hts _ c_is7.2) c_cw7.2.2 ⟨(Nat.le_of_ble_eq_true rfl), (Nat.le_of_ble_eq_true rfl)⟩, rfl, hts _ c_cw7.2.1⟩ ⟨fun a U g mk q => by obtain ⟨q0, q1, qP, qK, qD, qN, qO⟩ := q; exact ⟨q0, q1, qP, va_K.moved (u := U) (U := U.calling g mk a) (Vm.Alike.refl U.vm) qK, qD, xNest_warm (State.WarmedH.refl U) qN, aoa_moved (u := U) (U := U.calling g mk a) (Vm.Alike.refl U.vm) qO⟩, fun U hU hW => ⟨rfl, by rw [hU], by rw [hU]; exact hPc, va_K.moved hW.alike hK, hDc.weaken (fun _ _ _ _ => trivial), xNest_warm hW hN, aoa_moved hW.alike hAO⟩⟩ rfl rfl hl.1 rfl (lv_room (Nat.le_of_ble_eq_true rfl)) dX1_init_9 ⟨(Nat.le_of_ble_eq_true rfl), (Nat.le_of_ble_eq_true rfl)⟩) hS (fun q _ h => hFc q h) hFc (fun u1 t H1 locs ht hvm hw hB hz1 hk1 hS => ?_)
  obtain ⟨hu1, hP1, hK1, hD1⟩ := hB
  rewrite [ht] at hP1
  obtain ⟨hP, hD⟩ := c_join (wr := [(h0, .inr (1, [.null, .null, .null, .null]))] ++ B0) (w1 := xb cI cB cZ cQ u1 21 5) hP hD hk1 hFc hP1 hD1
  generalize H1 = H at hP hS ⊢
  have hP : va_P D vwCl ([(h0, .inr (1, [.null, .null, .null, .null]))] ++ (B0 ++ xb cI cB cZ cQ u1 21 5)) H := by rw [← List.append_assoc]; exact hP
  have hD : va_D A ([(h0, .inr (1, [.null, .null, .null, .null]))] ++ (B0 ++ xb cI cB cZ cQ u1 21 5)) := by rw [← List.append_assoc]; exact hD
  obtain ⟨B1, hB1⟩ : ∃ z : va_W, z = B0 ++ xb cI cB cZ cQ u1 21 5 := ⟨_, rfl⟩
  rewrite [← hB1] at hP hD
  have hz1 : Value.ref q1 = .ref (u1 21) := by rw [hu1]
  refine W.widen (k := 5) (n := 30) (Nat.le_of_ble_eq_true rfl) (Nat.le_of_ble_eq_true rfl) ?_
  rw [hz1]
  refine va_putF (D := D) (ci := 1) (v := .ref (u1 21)) (ty := tyX1 0) (C := RX1) (T := TX1) (N := 4) hx hb hts x_in1 tyX1 tyX1_ok nmX1 hown hK hP hD hS 0 rfl rfl 0 (by decide) (hts _ xl_X1_12) (fun _ h9 => h9) rfl hin rfl (tyX1_ok 0 (by decide)) rfl rfl (Nat.le_of_ble_eq_true rfl) dX1_init_12 (fun H locs hP hD hS => ?_)
  have hP : va_P D vwCl ([(h0, .inr (1, [.ref (u1 21), .null, .null, .null]))] ++ B1) H := hP
  have hD : va_D A ([(h0, .inr (1, [.ref (u1 21), .null, .null, .null]))] ++ B1) := hD
  refine lv_aload_n hx hb dX1_init_15 rfl (lv_at hl 0 rfl) ?_
  refine va_new (ci := 0) (fs := [.null, .int 0]) (C := RX0) (T := TX0) (N := 2) hx hb hts x_in0 tyX0 tyX0_ok hown (hts _ c_cl1_18) (hts _ c_is0.1) (hts _ c_is0.2) hK hP hD hS hA rfl c_df0 (Nat.le_of_ble_eq_true rfl) (Nat.le_of_ble_eq_true rfl) dX1_init_16 (fun q2 H hP hD hS => ?_)
  refine W.widen (k := 6) (n := 32) (Nat.le_of_ble_eq_true rfl) (Nat.le_of_ble_eq_true rfl) ?_
  refine lv_dup hx hb dX1_init_19 rfl ?_
  have hPc : va_P D vwCl [(q2, .inr (0, [.null, .int 0]))] H := c_right hP
  have hDc : va_D A [(q2, .inr (0, [.null, .int 0]))] := c_rightD hD
  have hFc := c_free (wc := [(q2, .inr (0, [.null, .int 0]))]) hD hS hA
  refine va_callv (va_runIN (As := []) (rest := [.ref q2, .ref h0]) ⟨hx, hb, hml, hown, hts⟩ (kc_0_26 l D cI cB cZ cQ q2 H.size) ⟨va_cnB (host := "GrottoHours") 0 hts (gT_in (fun w h => (List.mem_cons.mp h).elim (fun e => e ▸ c_cw0.1) id)) rfl rfl rfl (hN _ (List.mem_of_getElem? (i := 65) rfl)) (hts _ c_is0.2) c_cw0.2.2 ⟨(Nat.le_of_ble_eq_true rfl), (Nat.le_of_ble_eq_true rfl)⟩, rfl, hts _ c_cw0.2.1⟩ ⟨fun a U g mk q => by obtain ⟨q0, q1, qP, qK, qD, qN, qO⟩ := q; exact ⟨q0, q1, qP, va_K.moved (u := U) (U := U.calling g mk a) (Vm.Alike.refl U.vm) qK, qD, xNest_warm (State.WarmedH.refl U) qN, aoa_moved (u := U) (U := U.calling g mk a) (Vm.Alike.refl U.vm) qO⟩, fun U hU hW => ⟨rfl, by rw [hU], by rw [hU]; exact hPc, va_K.moved hW.alike hK, hDc.weaken (fun _ _ _ _ => trivial), xNest_warm hW hN, aoa_moved hW.alike hAO⟩⟩ rfl rfl hl.1 rfl (lv_room (Nat.le_of_ble_eq_true rfl)) dX1_init_20 ⟨(Nat.le_of_ble_eq_true rfl), (Nat.le_of_ble_eq_true rfl)⟩) hS (fun q _ h => hFc q h) hFc (fun u2 t H1 locs ht hvm hw hB hz1 hk1 hS => ?_)
  obtain ⟨hu2, hP1, hK1, hD1⟩ := hB
  rewrite [ht] at hP1
  obtain ⟨hP, hD⟩ := c_join (wr := [(h0, .inr (1, [.ref (u1 21), .null, .null, .null]))] ++ B1) (w1 := xb cI cB cZ cQ u2 26 2) hP hD hk1 hFc hP1 hD1
  generalize H1 = H at hP hS ⊢
  have hP : va_P D vwCl ([(h0, .inr (1, [.ref (u1 21), .null, .null, .null]))] ++ (B1 ++ xb cI cB cZ cQ u2 26 2)) H := by rw [← List.append_assoc]; exact hP
  have hD : va_D A ([(h0, .inr (1, [.ref (u1 21), .null, .null, .null]))] ++ (B1 ++ xb cI cB cZ cQ u2 26 2)) := by rw [← List.append_assoc]; exact hD
  obtain ⟨B2, hB2⟩ : ∃ z : va_W, z = B1 ++ xb cI cB cZ cQ u2 26 2 := ⟨_, rfl⟩
  rewrite [← hB2] at hP hD
  have hz2 : Value.ref q2 = .ref (u2 26) := by rw [hu2]
  refine W.widen (k := 7) (n := 1072) (Nat.le_of_ble_eq_true rfl) (Nat.le_of_ble_eq_true rfl) ?_
  rw [hz2]
  refine va_putF (D := D) (ci := 1) (v := .ref (u2 26)) (ty := tyX1 1) (C := RX1) (T := TX1) (N := 4) hx hb hts x_in1 tyX1 tyX1_ok nmX1 hown hK hP hD hS 0 rfl rfl 1 (by decide) (hts _ xl_X1_21) (fun _ h9 => h9) rfl hin rfl (tyX1_ok 1 (by decide)) rfl rfl (Nat.le_of_ble_eq_true rfl) dX1_init_23 (fun H locs hP hD hS => ?_)
  have hP : va_P D vwCl ([(h0, .inr (1, [.ref (u1 21), .ref (u2 26), .null, .null]))] ++ B2) H := hP
  have hD : va_D A ([(h0, .inr (1, [.ref (u1 21), .ref (u2 26), .null, .null]))] ++ B2) := hD
  refine lv_aload_n hx hb dX1_init_26 rfl (lv_at hl 0 rfl) ?_
  refine va_new (ci := 5) (fs := [.null, .null, .null, .int 0]) (C := RX5) (T := TX5) (N := 4) hx hb hts x_in5 tyX5 tyX5_ok hown (hts _ c_cl1_25) (hts _ c_is5.1) (hts _ c_is5.2) hK hP hD hS hA rfl c_df5 (Nat.le_of_ble_eq_true rfl) (Nat.le_of_ble_eq_true rfl) dX1_init_27 (fun q3 H hP hD hS => ?_)
  refine W.widen (k := 8) (n := 1076) (Nat.le_of_ble_eq_true rfl) (Nat.le_of_ble_eq_true rfl) ?_
  refine lv_dup hx hb dX1_init_30 rfl ?_
  have hPc : va_P D vwCl [(q3, .inr (5, [.null, .null, .null, .int 0]))] H := c_right hP
  have hDc : va_D A [(q3, .inr (5, [.null, .null, .null, .int 0]))] := c_rightD hD
  have hFc := c_free (wc := [(q3, .inr (5, [.null, .null, .null, .int 0]))]) hD hS hA
  refine va_callv (va_runIN (As := []) (rest := [.ref q3, .ref h0]) ⟨hx, hb, hml, hown, hts⟩ (kc_5_28 l D cI cB cZ cQ q3 H.size) ⟨va_cnB (host := "GrottoHours") 0 hts (gT_in (fun w h => (List.mem_cons.mp h).elim (fun e => e ▸ c_cw5.1) id)) rfl rfl rfl (hN _ (List.mem_of_getElem? (i := 68) rfl)) (hts _ c_is5.2) c_cw5.2.2 ⟨(Nat.le_of_ble_eq_true rfl), (Nat.le_of_ble_eq_true rfl)⟩, rfl, hts _ c_cw5.2.1⟩ ⟨fun a U g mk q => by obtain ⟨q0, q1, qP, qK, qD, qN, qO⟩ := q; exact ⟨q0, q1, qP, va_K.moved (u := U) (U := U.calling g mk a) (Vm.Alike.refl U.vm) qK, qD, xNest_warm (State.WarmedH.refl U) qN, aoa_moved (u := U) (U := U.calling g mk a) (Vm.Alike.refl U.vm) qO⟩, fun U hU hW => ⟨rfl, by rw [hU], by rw [hU]; exact hPc, va_K.moved hW.alike hK, hDc.weaken (fun _ _ _ _ => trivial), xNest_warm hW hN, aoa_moved hW.alike hAO⟩⟩ rfl rfl hl.1 rfl (lv_room (Nat.le_of_ble_eq_true rfl)) dX1_init_31 ⟨(Nat.le_of_ble_eq_true rfl), (Nat.le_of_ble_eq_true rfl)⟩) hS (fun q _ h => hFc q h) hFc (fun u3 t H1 locs ht hvm hw hB hz1 hk1 hS => ?_)
  obtain ⟨hu3, hP1, hK1, hD1⟩ := hB
  rewrite [ht] at hP1
  obtain ⟨hP, hD⟩ := c_join (wr := [(h0, .inr (1, [.ref (u1 21), .ref (u2 26), .null, .null]))] ++ B2) (w1 := xb cI cB cZ cQ u3 28 4) hP hD hk1 hFc hP1 hD1
  generalize H1 = H at hP hS ⊢
  have hP : va_P D vwCl ([(h0, .inr (1, [.ref (u1 21), .ref (u2 26), .null, .null]))] ++ (B2 ++ xb cI cB cZ cQ u3 28 4)) H := by rw [← List.append_assoc]; exact hP
  have hD : va_D A ([(h0, .inr (1, [.ref (u1 21), .ref (u2 26), .null, .null]))] ++ (B2 ++ xb cI cB cZ cQ u3 28 4)) := by rw [← List.append_assoc]; exact hD
  obtain ⟨B3, hB3⟩ : ∃ z : va_W, z = B2 ++ xb cI cB cZ cQ u3 28 4 := ⟨_, rfl⟩
  rewrite [← hB3] at hP hD
  have hz3 : Value.ref q3 = .ref (u3 28) := by rw [hu3]
  refine W.widen (k := 11) (n := 1100) (Nat.le_of_ble_eq_true rfl) (Nat.le_of_ble_eq_true rfl) ?_
  rw [hz3]
  refine va_putF (D := D) (ci := 1) (v := .ref (u3 28)) (ty := tyX1 2) (C := RX1) (T := TX1) (N := 4) hx hb hts x_in1 tyX1 tyX1_ok nmX1 hown hK hP hD hS 0 rfl rfl 2 (by decide) (hts _ xl_X1_28) (fun _ h9 => h9) rfl hin rfl (tyX1_ok 2 (by decide)) rfl rfl (Nat.le_of_ble_eq_true rfl) dX1_init_34 (fun H locs hP hD hS => ?_)
  have hP : va_P D vwCl ([(h0, .inr (1, [.ref (u1 21), .ref (u2 26), .ref (u3 28), .null]))] ++ B3) H := hP
  have hD : va_D A ([(h0, .inr (1, [.ref (u1 21), .ref (u2 26), .ref (u3 28), .null]))] ++ B3) := hD
  refine lv_aload_n hx hb dX1_init_37 rfl (lv_at hl 0 rfl) ?_
  refine lv_iconst (v := 3) hx hb dX1_init_38 (by decide) ?_
  refine c_newa (atype := .int) (a0 := (3, .inl (fun _ => 0))) hx hb (hts _ c_ac_int) rfl (fun _ h => by cases h) hK (t0 := 0) rfl hP hD hS hA (fun _ => rfl) (by decide) (by decide) (Nat.le_of_ble_eq_true rfl) (Nat.le_of_ble_eq_true rfl) (Nat.le_of_ble_eq_true rfl) dX1_init_39 (fun q4 H hP hD hS => ?_)
  have hP : va_P D vwCl ([(h0, .inr (1, [.ref (u1 21), .ref (u2 26), .ref (u3 28), .null]))] ++ (B3 ++ [(q4, .inl (cI, 3, .inl (fun _ => 0)))])) H := by rw [← List.append_assoc]; exact hP
  have hD : va_D A ([(h0, .inr (1, [.ref (u1 21), .ref (u2 26), .ref (u3 28), .null]))] ++ (B3 ++ [(q4, .inl (cI, 3, .inl (fun _ => 0)))])) := by rw [← List.append_assoc]; exact hD
  obtain ⟨B4, hB4⟩ : ∃ z : va_W, z = B3 ++ [(q4, .inl (cI, 3, .inl (fun _ => 0)))] := ⟨_, rfl⟩
  rewrite [← hB4] at hP hD
  refine W.widen (k := 12) (n := 1103) (Nat.le_of_ble_eq_true rfl) (Nat.le_of_ble_eq_true rfl) ?_
  refine va_putF (D := D) (ci := 1) (v := .ref q4) (ty := tyX1 3) (C := RX1) (T := TX1) (N := 4) hx hb hts x_in1 tyX1 tyX1_ok nmX1 hown hK hP hD hS 0 rfl rfl 3 (by decide) (hts _ xl_X1_32) (fun _ h9 => h9) rfl hin rfl (tyX1_ok 3 (by decide)) rfl rfl (Nat.le_of_ble_eq_true rfl) dX1_init_41 (fun H locs hP hD hS => ?_)
  have hP : va_P D vwCl ([(h0, .inr (1, [.ref (u1 21), .ref (u2 26), .ref (u3 28), .ref q4]))] ++ B4) H := hP
  have hD : va_D A ([(h0, .inr (1, [.ref (u1 21), .ref (u2 26), .ref (u3 28), .ref q4]))] ++ B4) := hD
  rewrite [hB4, hB3, hB2, hB1, hB0] at hP hD
  have hP9 : va_P D vwCl (xb cI cB cZ cQ (xj (xj (xj (xj (fun _ => h0) 21 u1) 26 u2) 28 u3) 32 (fun _ => q4)) 20 13) H := hP
  have hD9 : va_D A (xb cI cB cZ cQ (xj (xj (xj (xj (fun _ => h0) 21 u1) 26 u2) 28 u3) 32 (fun _ => q4)) 20 13) := hD
  exact W.vret hx hb hr (fun t ht hW => ⟨⟨(xj (xj (xj (xj (fun _ => h0) 21 u1) 26 u2) 28 u3) 32 (fun _ => q4)), rfl, trivial, rfl, by rw [ht]; exact hP9, va_K.moved hW.alike hK, hD9⟩, hS.F ht⟩) hS.2.2 dX1_init_44 hlocks
theorem kc_7_34 (l : Launch) (D : va_G) (cI cB cZ cQ : ClassId) (h0 : Nat) : cM l yX7_init cX7_init 1 1 4 24 D (xtys cI cB cZ cQ) [.ref h0] [(h0, .inr (7, [.int 0, .int 0, .null, .null, .null, .null]))] 34 h0 (fun u => xb cI cB cZ cQ u 34 5) :=
  kg_7 l D cI cB cZ cQ h0 34 _ (fun q1 q2 q3 q4 => ⟨(xj (xj (xj (xj (fun _ => h0) 35 (fun _ => q1)) 36 (fun _ => q2)) 37 (fun _ => q3)) 38 (fun _ => q4)), rfl, rfl⟩)
theorem kc_0_39 (l : Launch) (D : va_G) (cI cB cZ cQ : ClassId) (h0 : Nat) : cM l yX0_init cX0_init 1 1 1 1040 D (xtys cI cB cZ cQ) [.ref h0] [(h0, .inr (0, [.null, .int 0]))] 39 h0 (fun u => xb cI cB cZ cQ u 39 2) :=
  kg_0 l D cI cB cZ cQ h0 39 _ (fun q1 => ⟨(xj (fun _ => h0) 40 (fun _ => q1)), rfl, rfl⟩)
theorem kc_5_41 (l : Launch) (D : va_G) (cI cB cZ cQ : ClassId) (h0 : Nat) : cM l yX5_init cX5_init 1 1 3 24 D (xtys cI cB cZ cQ) [.ref h0] [(h0, .inr (5, [.null, .null, .null, .int 0]))] 41 h0 (fun u => xb cI cB cZ cQ u 41 4) :=
  kg_5 l D cI cB cZ cQ h0 41 _ (fun q1 q2 q3 => ⟨(xj (xj (xj (fun _ => h0) 42 (fun _ => q1)) 43 (fun _ => q2)) 44 (fun _ => q3)), rfl, rfl⟩)
set_option maxHeartbeats 4000000 in
set_option maxRecDepth 100000 in
theorem kc_1_33 (l : Launch) (D : va_G) (cI cB cZ cQ : ClassId) (h0 : Nat) : cM l yX1_init cX1_init 1 2 12 1103 D (xtys cI cB cZ cQ) [.ref h0] [(h0, .inr (1, [.null, .null, .null, .null]))] 33 h0 (fun u => xb cI cB cZ cQ u 33 13) := by
  intro sz
  refine Met.ofW (cc := cX1_init) (maxL := 1) (ret := none) (by decide) rfl ?_
  intro p e s m args below meth c s₁ B hml hv
  obtain ⟨rfl, hsz, hP, hK, hD0, hN, hAO⟩ := hv
  have hx := B.exec
  have hb := B.bytes
  have hr := B.returns
  have hts : ∀ w ∈ gT, w.before _ s = true := fun w h => atoms_spec (ws := Cond.code yX1_init cX1_init 1 none :: gT) B.pre w (List.mem_cons_of_mem _ h)
  have hown : s.vm.findClass RX1 = some m.cls := findClass_of_methodNamed B.named
  have hlocks := B.notSynchronized
  have hin : meth.name = "<init>" := (name_of_methodNamed B.named B.method).1
  subst hsz
  have hD := hD0.self (sz := s.heap.size)
  generalize hAe : va_A [(h0, .inr (1, [.null, .null, .null, .null]))] s.heap.size = A at hD ⊢
  have hA : ∀ q : Nat, s.heap.size ≤ q → A q := fun q h => by rw [← hAe]; exact Or.inr h
  have hS : va_S A s.heap s.heap [] := va_S.rf
  have hl := lv_entry ([.ref h0]) (n := 1) (Nat.le_of_ble_eq_true rfl)
  rw [lg_entry_eq]
  generalize (lg_sl ([.ref h0]) ++ List.replicate (1 - (lg_sl ([.ref h0])).length) Slot.unset).toArray = ls at hl ⊢
  have hl : lv_has ls 1 [(0, .ref h0)] := hl
  obtain ⟨B0, hB0⟩ : ∃ z : va_W, z = [] := ⟨_, rfl⟩
  have hP : va_P D vwCl ([(h0, .inr (1, [.null, .null, .null, .null]))] ++ B0) s.heap := by rw [hB0]; exact hP
  have hD : va_D A ([(h0, .inr (1, [.null, .null, .null, .null]))] ++ B0) := by rw [hB0]; exact hD
  refine lv_aload_n hx hb dX1_init_0 rfl (lv_at hl 0 rfl) ?_
  refine W.objInit hx hb hown (hts _ c_oi1) (hts _ c_ob.1) (hts _ c_ob.2) rfl (by rw [hml]; exact hl.1) rfl dX1_init_1 (Nat.le_of_ble_eq_true rfl) (Nat.le_of_ble_eq_true rfl) ?_
  refine W.eq (g2 := F0 m 4 ls []) rfl ?_
  refine lv_aload_n hx hb dX1_init_4 rfl (lv_at hl 0 rfl) ?_
  refine va_new (ci := 7) (fs := [.int 0, .int 0, .null, .null, .null, .null]) (C := RX7) (T := TX7) (N := 6) hx hb hts x_in7 tyX7 tyX7_ok hown (hts _ c_cl1_9) (hts _ c_is7.1) (hts _ c_is7.2) hK hP hD hS hA rfl c_df7 (Nat.le_of_ble_eq_true rfl) (Nat.le_of_ble_eq_true rfl) dX1_init_5 (fun q1 H hP hD hS => ?_)
  refine W.widen (k := 1) (n := 6) (Nat.le_of_ble_eq_true rfl) (Nat.le_of_ble_eq_true rfl) ?_
  refine lv_dup hx hb dX1_init_8 rfl ?_
  have hPc : va_P D vwCl [(q1, .inr (7, [.int 0, .int 0, .null, .null, .null, .null]))] H := c_right hP
  have hDc : va_D A [(q1, .inr (7, [.int 0, .int 0, .null, .null, .null, .null]))] := c_rightD hD
  have hFc := c_free (wc := [(q1, .inr (7, [.int 0, .int 0, .null, .null, .null, .null]))]) hD hS hA
  refine va_callv (va_runIN (As := []) (rest := [.ref q1, .ref h0]) ⟨hx, hb, hml, hown, hts⟩ (kc_7_34 l D cI cB cZ cQ q1 H.size) ⟨va_cnB (host := "GrottoHours") 0 hts (gT_in (fun w h => (List.mem_cons.mp h).elim (fun e => e ▸ c_cw7.1) id)) rfl rfl rfl (hN _ (List.mem_of_getElem? (i := 51) rfl)) (hts _ c_is7.2) c_cw7.2.2 ⟨(Nat.le_of_ble_eq_true rfl), (Nat.le_of_ble_eq_true rfl)⟩, rfl, hts _ c_cw7.2.1⟩ ⟨fun a U g mk q => by obtain ⟨q0, q1, qP, qK, qD, qN, qO⟩ := q; exact ⟨q0, q1, qP, va_K.moved (u := U) (U := U.calling g mk a) (Vm.Alike.refl U.vm) qK, qD, xNest_warm (State.WarmedH.refl U) qN, aoa_moved (u := U) (U := U.calling g mk a) (Vm.Alike.refl U.vm) qO⟩, fun U hU hW => ⟨rfl, by rw [hU], by rw [hU]; exact hPc, va_K.moved hW.alike hK, hDc.weaken (fun _ _ _ _ => trivial), xNest_warm hW hN, aoa_moved hW.alike hAO⟩⟩ rfl rfl hl.1 rfl (lv_room (Nat.le_of_ble_eq_true rfl)) dX1_init_9 ⟨(Nat.le_of_ble_eq_true rfl), (Nat.le_of_ble_eq_true rfl)⟩) hS (fun q _ h => hFc q h) hFc (fun u1 t H1 locs ht hvm hw hB hz1 hk1 hS => ?_)
  obtain ⟨hu1, hP1, hK1, hD1⟩ := hB
  rewrite [ht] at hP1
  obtain ⟨hP, hD⟩ := c_join (wr := [(h0, .inr (1, [.null, .null, .null, .null]))] ++ B0) (w1 := xb cI cB cZ cQ u1 34 5) hP hD hk1 hFc hP1 hD1
  generalize H1 = H at hP hS ⊢
  have hP : va_P D vwCl ([(h0, .inr (1, [.null, .null, .null, .null]))] ++ (B0 ++ xb cI cB cZ cQ u1 34 5)) H := by rw [← List.append_assoc]; exact hP
  have hD : va_D A ([(h0, .inr (1, [.null, .null, .null, .null]))] ++ (B0 ++ xb cI cB cZ cQ u1 34 5)) := by rw [← List.append_assoc]; exact hD
  obtain ⟨B1, hB1⟩ : ∃ z : va_W, z = B0 ++ xb cI cB cZ cQ u1 34 5 := ⟨_, rfl⟩
  rewrite [← hB1] at hP hD
  have hz1 : Value.ref q1 = .ref (u1 34) := by rw [hu1]
  refine W.widen (k := 5) (n := 30) (Nat.le_of_ble_eq_true rfl) (Nat.le_of_ble_eq_true rfl) ?_
  rw [hz1]
  refine va_putF (D := D) (ci := 1) (v := .ref (u1 34)) (ty := tyX1 0) (C := RX1) (T := TX1) (N := 4) hx hb hts x_in1 tyX1 tyX1_ok nmX1 hown hK hP hD hS 0 rfl rfl 0 (by decide) (hts _ xl_X1_12) (fun _ h9 => h9) rfl hin rfl (tyX1_ok 0 (by decide)) rfl rfl (Nat.le_of_ble_eq_true rfl) dX1_init_12 (fun H locs hP hD hS => ?_)
  have hP : va_P D vwCl ([(h0, .inr (1, [.ref (u1 34), .null, .null, .null]))] ++ B1) H := hP
  have hD : va_D A ([(h0, .inr (1, [.ref (u1 34), .null, .null, .null]))] ++ B1) := hD
  refine lv_aload_n hx hb dX1_init_15 rfl (lv_at hl 0 rfl) ?_
  refine va_new (ci := 0) (fs := [.null, .int 0]) (C := RX0) (T := TX0) (N := 2) hx hb hts x_in0 tyX0 tyX0_ok hown (hts _ c_cl1_18) (hts _ c_is0.1) (hts _ c_is0.2) hK hP hD hS hA rfl c_df0 (Nat.le_of_ble_eq_true rfl) (Nat.le_of_ble_eq_true rfl) dX1_init_16 (fun q2 H hP hD hS => ?_)
  refine W.widen (k := 6) (n := 32) (Nat.le_of_ble_eq_true rfl) (Nat.le_of_ble_eq_true rfl) ?_
  refine lv_dup hx hb dX1_init_19 rfl ?_
  have hPc : va_P D vwCl [(q2, .inr (0, [.null, .int 0]))] H := c_right hP
  have hDc : va_D A [(q2, .inr (0, [.null, .int 0]))] := c_rightD hD
  have hFc := c_free (wc := [(q2, .inr (0, [.null, .int 0]))]) hD hS hA
  refine va_callv (va_runIN (As := []) (rest := [.ref q2, .ref h0]) ⟨hx, hb, hml, hown, hts⟩ (kc_0_39 l D cI cB cZ cQ q2 H.size) ⟨va_cnB (host := "GrottoHours") 0 hts (gT_in (fun w h => (List.mem_cons.mp h).elim (fun e => e ▸ c_cw0.1) id)) rfl rfl rfl (hN _ (List.mem_of_getElem? (i := 65) rfl)) (hts _ c_is0.2) c_cw0.2.2 ⟨(Nat.le_of_ble_eq_true rfl), (Nat.le_of_ble_eq_true rfl)⟩, rfl, hts _ c_cw0.2.1⟩ ⟨fun a U g mk q => by obtain ⟨q0, q1, qP, qK, qD, qN, qO⟩ := q; exact ⟨q0, q1, qP, va_K.moved (u := U) (U := U.calling g mk a) (Vm.Alike.refl U.vm) qK, qD, xNest_warm (State.WarmedH.refl U) qN, aoa_moved (u := U) (U := U.calling g mk a) (Vm.Alike.refl U.vm) qO⟩, fun U hU hW => ⟨rfl, by rw [hU], by rw [hU]; exact hPc, va_K.moved hW.alike hK, hDc.weaken (fun _ _ _ _ => trivial), xNest_warm hW hN, aoa_moved hW.alike hAO⟩⟩ rfl rfl hl.1 rfl (lv_room (Nat.le_of_ble_eq_true rfl)) dX1_init_20 ⟨(Nat.le_of_ble_eq_true rfl), (Nat.le_of_ble_eq_true rfl)⟩) hS (fun q _ h => hFc q h) hFc (fun u2 t H1 locs ht hvm hw hB hz1 hk1 hS => ?_)
  obtain ⟨hu2, hP1, hK1, hD1⟩ := hB
  rewrite [ht] at hP1
  obtain ⟨hP, hD⟩ := c_join (wr := [(h0, .inr (1, [.ref (u1 34), .null, .null, .null]))] ++ B1) (w1 := xb cI cB cZ cQ u2 39 2) hP hD hk1 hFc hP1 hD1
  generalize H1 = H at hP hS ⊢
  have hP : va_P D vwCl ([(h0, .inr (1, [.ref (u1 34), .null, .null, .null]))] ++ (B1 ++ xb cI cB cZ cQ u2 39 2)) H := by rw [← List.append_assoc]; exact hP
  have hD : va_D A ([(h0, .inr (1, [.ref (u1 34), .null, .null, .null]))] ++ (B1 ++ xb cI cB cZ cQ u2 39 2)) := by rw [← List.append_assoc]; exact hD
  obtain ⟨B2, hB2⟩ : ∃ z : va_W, z = B1 ++ xb cI cB cZ cQ u2 39 2 := ⟨_, rfl⟩
  rewrite [← hB2] at hP hD
  have hz2 : Value.ref q2 = .ref (u2 39) := by rw [hu2]
  refine W.widen (k := 7) (n := 1072) (Nat.le_of_ble_eq_true rfl) (Nat.le_of_ble_eq_true rfl) ?_
  rw [hz2]
  refine va_putF (D := D) (ci := 1) (v := .ref (u2 39)) (ty := tyX1 1) (C := RX1) (T := TX1) (N := 4) hx hb hts x_in1 tyX1 tyX1_ok nmX1 hown hK hP hD hS 0 rfl rfl 1 (by decide) (hts _ xl_X1_21) (fun _ h9 => h9) rfl hin rfl (tyX1_ok 1 (by decide)) rfl rfl (Nat.le_of_ble_eq_true rfl) dX1_init_23 (fun H locs hP hD hS => ?_)
  have hP : va_P D vwCl ([(h0, .inr (1, [.ref (u1 34), .ref (u2 39), .null, .null]))] ++ B2) H := hP
  have hD : va_D A ([(h0, .inr (1, [.ref (u1 34), .ref (u2 39), .null, .null]))] ++ B2) := hD
  refine lv_aload_n hx hb dX1_init_26 rfl (lv_at hl 0 rfl) ?_
  refine va_new (ci := 5) (fs := [.null, .null, .null, .int 0]) (C := RX5) (T := TX5) (N := 4) hx hb hts x_in5 tyX5 tyX5_ok hown (hts _ c_cl1_25) (hts _ c_is5.1) (hts _ c_is5.2) hK hP hD hS hA rfl c_df5 (Nat.le_of_ble_eq_true rfl) (Nat.le_of_ble_eq_true rfl) dX1_init_27 (fun q3 H hP hD hS => ?_)
  refine W.widen (k := 8) (n := 1076) (Nat.le_of_ble_eq_true rfl) (Nat.le_of_ble_eq_true rfl) ?_
  refine lv_dup hx hb dX1_init_30 rfl ?_
  have hPc : va_P D vwCl [(q3, .inr (5, [.null, .null, .null, .int 0]))] H := c_right hP
  have hDc : va_D A [(q3, .inr (5, [.null, .null, .null, .int 0]))] := c_rightD hD
  have hFc := c_free (wc := [(q3, .inr (5, [.null, .null, .null, .int 0]))]) hD hS hA
  refine va_callv (va_runIN (As := []) (rest := [.ref q3, .ref h0]) ⟨hx, hb, hml, hown, hts⟩ (kc_5_41 l D cI cB cZ cQ q3 H.size) ⟨va_cnB (host := "GrottoHours") 0 hts (gT_in (fun w h => (List.mem_cons.mp h).elim (fun e => e ▸ c_cw5.1) id)) rfl rfl rfl (hN _ (List.mem_of_getElem? (i := 68) rfl)) (hts _ c_is5.2) c_cw5.2.2 ⟨(Nat.le_of_ble_eq_true rfl), (Nat.le_of_ble_eq_true rfl)⟩, rfl, hts _ c_cw5.2.1⟩ ⟨fun a U g mk q => by obtain ⟨q0, q1, qP, qK, qD, qN, qO⟩ := q; exact ⟨q0, q1, qP, va_K.moved (u := U) (U := U.calling g mk a) (Vm.Alike.refl U.vm) qK, qD, xNest_warm (State.WarmedH.refl U) qN, aoa_moved (u := U) (U := U.calling g mk a) (Vm.Alike.refl U.vm) qO⟩, fun U hU hW => ⟨rfl, by rw [hU], by rw [hU]; exact hPc, va_K.moved hW.alike hK, hDc.weaken (fun _ _ _ _ => trivial), xNest_warm hW hN, aoa_moved hW.alike hAO⟩⟩ rfl rfl hl.1 rfl (lv_room (Nat.le_of_ble_eq_true rfl)) dX1_init_31 ⟨(Nat.le_of_ble_eq_true rfl), (Nat.le_of_ble_eq_true rfl)⟩) hS (fun q _ h => hFc q h) hFc (fun u3 t H1 locs ht hvm hw hB hz1 hk1 hS => ?_)
  obtain ⟨hu3, hP1, hK1, hD1⟩ := hB
  rewrite [ht] at hP1
  obtain ⟨hP, hD⟩ := c_join (wr := [(h0, .inr (1, [.ref (u1 34), .ref (u2 39), .null, .null]))] ++ B2) (w1 := xb cI cB cZ cQ u3 41 4) hP hD hk1 hFc hP1 hD1
  generalize H1 = H at hP hS ⊢
  have hP : va_P D vwCl ([(h0, .inr (1, [.ref (u1 34), .ref (u2 39), .null, .null]))] ++ (B2 ++ xb cI cB cZ cQ u3 41 4)) H := by rw [← List.append_assoc]; exact hP
  have hD : va_D A ([(h0, .inr (1, [.ref (u1 34), .ref (u2 39), .null, .null]))] ++ (B2 ++ xb cI cB cZ cQ u3 41 4)) := by rw [← List.append_assoc]; exact hD
  obtain ⟨B3, hB3⟩ : ∃ z : va_W, z = B2 ++ xb cI cB cZ cQ u3 41 4 := ⟨_, rfl⟩
  rewrite [← hB3] at hP hD
  have hz3 : Value.ref q3 = .ref (u3 41) := by rw [hu3]
  refine W.widen (k := 11) (n := 1100) (Nat.le_of_ble_eq_true rfl) (Nat.le_of_ble_eq_true rfl) ?_
  rw [hz3]
  refine va_putF (D := D) (ci := 1) (v := .ref (u3 41)) (ty := tyX1 2) (C := RX1) (T := TX1) (N := 4) hx hb hts x_in1 tyX1 tyX1_ok nmX1 hown hK hP hD hS 0 rfl rfl 2 (by decide) (hts _ xl_X1_28) (fun _ h9 => h9) rfl hin rfl (tyX1_ok 2 (by decide)) rfl rfl (Nat.le_of_ble_eq_true rfl) dX1_init_34 (fun H locs hP hD hS => ?_)
  have hP : va_P D vwCl ([(h0, .inr (1, [.ref (u1 34), .ref (u2 39), .ref (u3 41), .null]))] ++ B3) H := hP
  have hD : va_D A ([(h0, .inr (1, [.ref (u1 34), .ref (u2 39), .ref (u3 41), .null]))] ++ B3) := hD
  refine lv_aload_n hx hb dX1_init_37 rfl (lv_at hl 0 rfl) ?_
  refine lv_iconst (v := 3) hx hb dX1_init_38 (by decide) ?_
  refine c_newa (atype := .int) (a0 := (3, .inl (fun _ => 0))) hx hb (hts _ c_ac_int) rfl (fun _ h => by cases h) hK (t0 := 0) rfl hP hD hS hA (fun _ => rfl) (by decide) (by decide) (Nat.le_of_ble_eq_true rfl) (Nat.le_of_ble_eq_true rfl) (Nat.le_of_ble_eq_true rfl) dX1_init_39 (fun q4 H hP hD hS => ?_)
  have hP : va_P D vwCl ([(h0, .inr (1, [.ref (u1 34), .ref (u2 39), .ref (u3 41), .null]))] ++ (B3 ++ [(q4, .inl (cI, 3, .inl (fun _ => 0)))])) H := by rw [← List.append_assoc]; exact hP
  have hD : va_D A ([(h0, .inr (1, [.ref (u1 34), .ref (u2 39), .ref (u3 41), .null]))] ++ (B3 ++ [(q4, .inl (cI, 3, .inl (fun _ => 0)))])) := by rw [← List.append_assoc]; exact hD
  obtain ⟨B4, hB4⟩ : ∃ z : va_W, z = B3 ++ [(q4, .inl (cI, 3, .inl (fun _ => 0)))] := ⟨_, rfl⟩
  rewrite [← hB4] at hP hD
  refine W.widen (k := 12) (n := 1103) (Nat.le_of_ble_eq_true rfl) (Nat.le_of_ble_eq_true rfl) ?_
  refine va_putF (D := D) (ci := 1) (v := .ref q4) (ty := tyX1 3) (C := RX1) (T := TX1) (N := 4) hx hb hts x_in1 tyX1 tyX1_ok nmX1 hown hK hP hD hS 0 rfl rfl 3 (by decide) (hts _ xl_X1_32) (fun _ h9 => h9) rfl hin rfl (tyX1_ok 3 (by decide)) rfl rfl (Nat.le_of_ble_eq_true rfl) dX1_init_41 (fun H locs hP hD hS => ?_)
  have hP : va_P D vwCl ([(h0, .inr (1, [.ref (u1 34), .ref (u2 39), .ref (u3 41), .ref q4]))] ++ B4) H := hP
  have hD : va_D A ([(h0, .inr (1, [.ref (u1 34), .ref (u2 39), .ref (u3 41), .ref q4]))] ++ B4) := hD
  rewrite [hB4, hB3, hB2, hB1, hB0] at hP hD
  have hP9 : va_P D vwCl (xb cI cB cZ cQ (xj (xj (xj (xj (fun _ => h0) 34 u1) 39 u2) 41 u3) 45 (fun _ => q4)) 33 13) H := hP
  have hD9 : va_D A (xb cI cB cZ cQ (xj (xj (xj (xj (fun _ => h0) 34 u1) 39 u2) 41 u3) 45 (fun _ => q4)) 33 13) := hD
  exact W.vret hx hb hr (fun t ht hW => ⟨⟨(xj (xj (xj (xj (fun _ => h0) 34 u1) 39 u2) 41 u3) 45 (fun _ => q4)), rfl, trivial, rfl, by rw [ht]; exact hP9, va_K.moved hW.alike hK, hD9⟩, hS.F ht⟩) hS.2.2 dX1_init_44 hlocks
theorem kc_7_46 (l : Launch) (D : va_G) (cI cB cZ cQ : ClassId) (h0 : Nat) : cM l yX7_init cX7_init 1 1 4 24 D (xtys cI cB cZ cQ) [.ref h0] [(h0, .inr (7, [.int 0, .int 0, .null, .null, .null, .null]))] 46 h0 (fun u => xb cI cB cZ cQ u 46 5) :=
  kg_7 l D cI cB cZ cQ h0 46 _ (fun q1 q2 q3 q4 => ⟨(xj (xj (xj (xj (fun _ => h0) 47 (fun _ => q1)) 48 (fun _ => q2)) 49 (fun _ => q3)) 50 (fun _ => q4)), rfl, rfl⟩)
set_option maxHeartbeats 4000000 in
set_option maxRecDepth 100000 in
theorem kc_10_51 (l : Launch) (D : va_G) (cI cB cZ cQ : ClassId) (h0 : Nat) : cM l yX10_init cX10_init 1 1 0 0 D (xtys cI cB cZ cQ) [.ref h0] [(h0, .inr (10, [.int 0, .int 0, .int 0, .int 0, .int 0, .int 0, .int 0, .int 0]))] 51 h0 (fun u => xb cI cB cZ cQ u 51 1) := by
  intro sz
  refine Met.ofW (cc := cX10_init) (maxL := 1) (ret := none) (by decide) rfl ?_
  intro p e s m args below meth c s₁ B hml hv
  obtain ⟨rfl, hsz, hP, hK, hD0, hN, hAO⟩ := hv
  have hx := B.exec
  have hb := B.bytes
  have hr := B.returns
  have hts : ∀ w ∈ gT, w.before _ s = true := fun w h => atoms_spec (ws := Cond.code yX10_init cX10_init 1 none :: gT) B.pre w (List.mem_cons_of_mem _ h)
  have hown : s.vm.findClass RX10 = some m.cls := findClass_of_methodNamed B.named
  have hlocks := B.notSynchronized
  have hin : meth.name = "<init>" := (name_of_methodNamed B.named B.method).1
  subst hsz
  have hD := hD0.self (sz := s.heap.size)
  generalize hAe : va_A [(h0, .inr (10, [.int 0, .int 0, .int 0, .int 0, .int 0, .int 0, .int 0, .int 0]))] s.heap.size = A at hD ⊢
  have hA : ∀ q : Nat, s.heap.size ≤ q → A q := fun q h => by rw [← hAe]; exact Or.inr h
  have hS : va_S A s.heap s.heap [] := va_S.rf
  have hl := lv_entry ([.ref h0]) (n := 1) (Nat.le_of_ble_eq_true rfl)
  rw [lg_entry_eq]
  generalize (lg_sl ([.ref h0]) ++ List.replicate (1 - (lg_sl ([.ref h0])).length) Slot.unset).toArray = ls at hl ⊢
  have hl : lv_has ls 1 [(0, .ref h0)] := hl
  obtain ⟨B0, hB0⟩ : ∃ z : va_W, z = [] := ⟨_, rfl⟩
  have hP : va_P D vwCl ([(h0, .inr (10, [.int 0, .int 0, .int 0, .int 0, .int 0, .int 0, .int 0, .int 0]))] ++ B0) s.heap := by rw [hB0]; exact hP
  have hD : va_D A ([(h0, .inr (10, [.int 0, .int 0, .int 0, .int 0, .int 0, .int 0, .int 0, .int 0]))] ++ B0) := by rw [hB0]; exact hD
  refine lv_aload_n hx hb dX10_init_0 rfl (lv_at hl 0 rfl) ?_
  refine W.objInit hx hb hown (hts _ c_oi10) (hts _ c_ob.1) (hts _ c_ob.2) rfl (by rw [hml]; exact hl.1) rfl dX10_init_1 (Nat.le_of_ble_eq_true rfl) (Nat.le_of_ble_eq_true rfl) ?_
  refine W.eq (g2 := F0 m 4 ls []) rfl ?_
  refine lv_aload_n hx hb dX10_init_4 rfl (lv_at hl 0 rfl) ?_
  refine lv_iconst (v := 0) hx hb dX10_init_5 (by decide) ?_
  refine va_put (D := D) (ci := 10) (v := .int 0) (ty := tyX10 0) (C := RX10) (T := TX10) (N := 8) hx hb hts x_in10 tyX10 tyX10_ok nmX10 hown hK hP hD hS 0 rfl rfl 0 (by decide) (hts _ xl_X10_9) (fun _ h9 => h9) rfl (tyX10_ok 0 (by decide)) rfl rfl (Nat.le_of_ble_eq_true rfl) dX10_init_6 (fun H locs hP hD hS => ?_)
  have hP : va_P D vwCl ([(h0, .inr (10, [.int 0, .int 0, .int 0, .int 0, .int 0, .int 0, .int 0, .int 0]))] ++ B0) H := hP
  have hD : va_D A ([(h0, .inr (10, [.int 0, .int 0, .int 0, .int 0, .int 0, .int 0, .int 0, .int 0]))] ++ B0) := hD
  refine lv_aload_n hx hb dX10_init_9 rfl (lv_at hl 0 rfl) ?_
  refine lv_iconst (v := 0) hx hb dX10_init_10 (by decide) ?_
  refine va_put (D := D) (ci := 10) (v := .int 0) (ty := tyX10 1) (C := RX10) (T := TX10) (N := 8) hx hb hts x_in10 tyX10 tyX10_ok nmX10 hown hK hP hD hS 0 rfl rfl 1 (by decide) (hts _ xl_X10_15) (fun _ h9 => h9) rfl (tyX10_ok 1 (by decide)) rfl rfl (Nat.le_of_ble_eq_true rfl) dX10_init_11 (fun H locs hP hD hS => ?_)
  have hP : va_P D vwCl ([(h0, .inr (10, [.int 0, .int 0, .int 0, .int 0, .int 0, .int 0, .int 0, .int 0]))] ++ B0) H := hP
  have hD : va_D A ([(h0, .inr (10, [.int 0, .int 0, .int 0, .int 0, .int 0, .int 0, .int 0, .int 0]))] ++ B0) := hD
  refine lv_aload_n hx hb dX10_init_14 rfl (lv_at hl 0 rfl) ?_
  refine lv_iconst (v := 0) hx hb dX10_init_15 (by decide) ?_
  refine va_put (D := D) (ci := 10) (v := .int 0) (ty := tyX10 2) (C := RX10) (T := TX10) (N := 8) hx hb hts x_in10 tyX10 tyX10_ok nmX10 hown hK hP hD hS 0 rfl rfl 2 (by decide) (hts _ xl_X10_18) (fun _ h9 => h9) rfl (tyX10_ok 2 (by decide)) rfl rfl (Nat.le_of_ble_eq_true rfl) dX10_init_16 (fun H locs hP hD hS => ?_)
  have hP : va_P D vwCl ([(h0, .inr (10, [.int 0, .int 0, .int 0, .int 0, .int 0, .int 0, .int 0, .int 0]))] ++ B0) H := hP
  have hD : va_D A ([(h0, .inr (10, [.int 0, .int 0, .int 0, .int 0, .int 0, .int 0, .int 0, .int 0]))] ++ B0) := hD
  refine lv_aload_n hx hb dX10_init_19 rfl (lv_at hl 0 rfl) ?_
  refine lv_iconst (v := 0) hx hb dX10_init_20 (by decide) ?_
  refine va_put (D := D) (ci := 10) (v := .int 0) (ty := tyX10 3) (C := RX10) (T := TX10) (N := 8) hx hb hts x_in10 tyX10 tyX10_ok nmX10 hown hK hP hD hS 0 rfl rfl 3 (by decide) (hts _ xl_X10_21) (fun _ h9 => h9) rfl (tyX10_ok 3 (by decide)) rfl rfl (Nat.le_of_ble_eq_true rfl) dX10_init_21 (fun H locs hP hD hS => ?_)
  have hP : va_P D vwCl ([(h0, .inr (10, [.int 0, .int 0, .int 0, .int 0, .int 0, .int 0, .int 0, .int 0]))] ++ B0) H := hP
  have hD : va_D A ([(h0, .inr (10, [.int 0, .int 0, .int 0, .int 0, .int 0, .int 0, .int 0, .int 0]))] ++ B0) := hD
  refine lv_aload_n hx hb dX10_init_24 rfl (lv_at hl 0 rfl) ?_
  refine lv_iconst (v := (-1)) hx hb dX10_init_25 (by decide) ?_
  refine va_put (D := D) (ci := 10) (v := .int (-1)) (ty := tyX10 4) (C := RX10) (T := TX10) (N := 8) hx hb hts x_in10 tyX10 tyX10_ok nmX10 hown hK hP hD hS 0 rfl rfl 4 (by decide) (hts _ xl_X10_24) (fun _ h9 => h9) rfl (tyX10_ok 4 (by decide)) rfl rfl (Nat.le_of_ble_eq_true rfl) dX10_init_26 (fun H locs hP hD hS => ?_)
  have hP : va_P D vwCl ([(h0, .inr (10, [.int 0, .int 0, .int 0, .int 0, .int (-1), .int 0, .int 0, .int 0]))] ++ B0) H := hP
  have hD : va_D A ([(h0, .inr (10, [.int 0, .int 0, .int 0, .int 0, .int (-1), .int 0, .int 0, .int 0]))] ++ B0) := hD
  refine lv_aload_n hx hb dX10_init_29 rfl (lv_at hl 0 rfl) ?_
  refine lv_iconst (v := 0) hx hb dX10_init_30 (by decide) ?_
  refine va_put (D := D) (ci := 10) (v := .int 0) (ty := tyX10 5) (C := RX10) (T := TX10) (N := 8) hx hb hts x_in10 tyX10 tyX10_ok nmX10 hown hK hP hD hS 0 rfl rfl 5 (by decide) (hts _ xl_X10_27) (fun _ h9 => h9) rfl (tyX10_ok 5 (by decide)) rfl rfl (Nat.le_of_ble_eq_true rfl) dX10_init_31 (fun H locs hP hD hS => ?_)
  have hP : va_P D vwCl ([(h0, .inr (10, [.int 0, .int 0, .int 0, .int 0, .int (-1), .int 0, .int 0, .int 0]))] ++ B0) H := hP
  have hD : va_D A ([(h0, .inr (10, [.int 0, .int 0, .int 0, .int 0, .int (-1), .int 0, .int 0, .int 0]))] ++ B0) := hD
  refine lv_aload_n hx hb dX10_init_34 rfl (lv_at hl 0 rfl) ?_
  refine lv_iconst (v := 0) hx hb dX10_init_35 (by decide) ?_
  refine va_put (D := D) (ci := 10) (v := .int 0) (ty := tyX10 6) (C := RX10) (T := TX10) (N := 8) hx hb hts x_in10 tyX10 tyX10_ok nmX10 hown hK hP hD hS 0 rfl rfl 6 (by decide) (hts _ xl_X10_30) (fun _ h9 => h9) rfl (tyX10_ok 6 (by decide)) rfl rfl (Nat.le_of_ble_eq_true rfl) dX10_init_36 (fun H locs hP hD hS => ?_)
  have hP : va_P D vwCl ([(h0, .inr (10, [.int 0, .int 0, .int 0, .int 0, .int (-1), .int 0, .int 0, .int 0]))] ++ B0) H := hP
  have hD : va_D A ([(h0, .inr (10, [.int 0, .int 0, .int 0, .int 0, .int (-1), .int 0, .int 0, .int 0]))] ++ B0) := hD
  refine lv_aload_n hx hb dX10_init_39 rfl (lv_at hl 0 rfl) ?_
  refine lv_iconst (v := 0) hx hb dX10_init_40 (by decide) ?_
  refine va_put (D := D) (ci := 10) (v := .int 0) (ty := tyX10 7) (C := RX10) (T := TX10) (N := 8) hx hb hts x_in10 tyX10 tyX10_ok nmX10 hown hK hP hD hS 0 rfl rfl 7 (by decide) (hts _ xl_X10_33) (fun _ h9 => h9) rfl (tyX10_ok 7 (by decide)) rfl rfl (Nat.le_of_ble_eq_true rfl) dX10_init_41 (fun H locs hP hD hS => ?_)
  have hP : va_P D vwCl ([(h0, .inr (10, [.int 0, .int 0, .int 0, .int 0, .int (-1), .int 0, .int 0, .int 0]))] ++ B0) H := hP
  have hD : va_D A ([(h0, .inr (10, [.int 0, .int 0, .int 0, .int 0, .int (-1), .int 0, .int 0, .int 0]))] ++ B0) := hD
  refine W.widen (k := 0) (n := 0) (Nat.le_of_ble_eq_true rfl) (Nat.le_of_ble_eq_true rfl) ?_
  rewrite [hB0] at hP hD
  have hP9 : va_P D vwCl (xb cI cB cZ cQ (fun _ => h0) 51 1) H := hP
  have hD9 : va_D A (xb cI cB cZ cQ (fun _ => h0) 51 1) := hD
  exact W.vret hx hb hr (fun t ht hW => ⟨⟨(fun _ => h0), rfl, trivial, rfl, by rw [ht]; exact hP9, va_K.moved hW.alike hK, hD9⟩, hS.F ht⟩) hS.2.2 dX10_init_44 hlocks
set_option maxHeartbeats 4000000 in
set_option maxRecDepth 100000 in
theorem kc_6_52 (l : Launch) (D : va_G) (cI cB cZ cQ : ClassId) (h0 : Nat) : cM l yX6_init cX6_init 1 1 9 1805 D (xtys cI cB cZ cQ) [.ref h0] [(h0, .inr (6, [.null, .null, .int 0, .int 0]))] 52 h0 (fun u => xb cI cB cZ cQ u 52 10) := by
  intro sz
  refine Met.ofW (cc := cX6_init) (maxL := 1) (ret := none) (by decide) rfl ?_
  intro p e s m args below meth c s₁ B hml hv
  obtain ⟨rfl, hsz, hP, hK, hD0, hN, hAO⟩ := hv
  have hx := B.exec
  have hb := B.bytes
  have hr := B.returns
  have hts : ∀ w ∈ gT, w.before _ s = true := fun w h => atoms_spec (ws := Cond.code yX6_init cX6_init 1 none :: gT) B.pre w (List.mem_cons_of_mem _ h)
  have hown : s.vm.findClass RX6 = some m.cls := findClass_of_methodNamed B.named
  have hlocks := B.notSynchronized
  have hin : meth.name = "<init>" := (name_of_methodNamed B.named B.method).1
  subst hsz
  have hD := hD0.self (sz := s.heap.size)
  generalize hAe : va_A [(h0, .inr (6, [.null, .null, .int 0, .int 0]))] s.heap.size = A at hD ⊢
  have hA : ∀ q : Nat, s.heap.size ≤ q → A q := fun q h => by rw [← hAe]; exact Or.inr h
  have hS : va_S A s.heap s.heap [] := va_S.rf
  have hl := lv_entry ([.ref h0]) (n := 1) (Nat.le_of_ble_eq_true rfl)
  rw [lg_entry_eq]
  generalize (lg_sl ([.ref h0]) ++ List.replicate (1 - (lg_sl ([.ref h0])).length) Slot.unset).toArray = ls at hl ⊢
  have hl : lv_has ls 1 [(0, .ref h0)] := hl
  obtain ⟨B0, hB0⟩ : ∃ z : va_W, z = [] := ⟨_, rfl⟩
  have hP : va_P D vwCl ([(h0, .inr (6, [.null, .null, .int 0, .int 0]))] ++ B0) s.heap := by rw [hB0]; exact hP
  have hD : va_D A ([(h0, .inr (6, [.null, .null, .int 0, .int 0]))] ++ B0) := by rw [hB0]; exact hD
  refine lv_aload_n hx hb dX6_init_0 rfl (lv_at hl 0 rfl) ?_
  refine W.objInit hx hb hown (hts _ c_oi6) (hts _ c_ob.1) (hts _ c_ob.2) rfl (by rw [hml]; exact hl.1) rfl dX6_init_1 (Nat.le_of_ble_eq_true rfl) (Nat.le_of_ble_eq_true rfl) ?_
  refine W.eq (g2 := F0 m 4 ls []) rfl ?_
  refine lv_aload_n hx hb dX6_init_4 rfl (lv_at hl 0 rfl) ?_
  refine lv_bipush (v := 7) hx hb dX6_init_5 (by decide) ?_
  refine lv_sipush (v := 256) hx hb dX6_init_7 (by decide) ?_
  refine c_mna (N' := 7) (K' := 256) hx hb hown (hts _ c_qq6) hAO (hts _ c_ac_int) hK rfl rfl hP hD hS hA (by decide) (by decide) (by decide) (by decide) (Nat.le_of_ble_eq_true rfl) (Nat.le_of_ble_eq_true rfl) (Nat.le_of_ble_eq_true rfl) (Nat.le_of_ble_eq_true rfl) (Nat.le_of_ble_eq_true rfl) dX6_init_10 (fun q1 r1 H hP hD hS => ?_)
  have hP : va_P D vwCl ([(h0, .inr (6, [.null, .null, .int 0, .int 0]))] ++ (B0 ++ ([(q1, .inl (cQ, 7, .inr (.inr (.inr (.inr (fun i => if i < 7 then some (r1 i) else none))))))] ++ (List.range 7).map (fun i => (r1 i, .inl (cI, 256, .inl (fun _ => 0))))))) H := by rw [← List.append_assoc, ← List.append_assoc]; exact hP
  have hD : va_D A ([(h0, .inr (6, [.null, .null, .int 0, .int 0]))] ++ (B0 ++ ([(q1, .inl (cQ, 7, .inr (.inr (.inr (.inr (fun i => if i < 7 then some (r1 i) else none))))))] ++ (List.range 7).map (fun i => (r1 i, .inl (cI, 256, .inl (fun _ => 0))))))) := by rw [← List.append_assoc, ← List.append_assoc]; exact hD
  obtain ⟨B1, hB1⟩ : ∃ z : va_W, z = B0 ++ ([(q1, .inl (cQ, 7, .inr (.inr (.inr (.inr (fun i => if i < 7 then some (r1 i) else none))))))] ++ (List.range 7).map (fun i => (r1 i, .inl (cI, 256, .inl (fun _ => 0))))) := ⟨_, rfl⟩
  rewrite [← hB1] at hP hD
  refine W.widen (k := 8) (n := 1799) (Nat.le_of_ble_eq_true rfl) (Nat.le_of_ble_eq_true rfl) ?_
  refine va_putF (D := D) (ci := 6) (v := .ref q1) (ty := tyX6 0) (C := RX6) (T := TX6) (N := 4) hx hb hts x_in6 tyX6 tyX6_ok nmX6 hown hK hP hD hS 0 rfl rfl 0 (by decide) (hts _ xl_X6_13) (fun _ h9 => h9) rfl hin rfl (tyX6_ok 0 (by decide)) rfl rfl (Nat.le_of_ble_eq_true rfl) dX6_init_14 (fun H locs hP hD hS => ?_)
  have hP : va_P D vwCl ([(h0, .inr (6, [.ref q1, .null, .int 0, .int 0]))] ++ B1) H := hP
  have hD : va_D A ([(h0, .inr (6, [.ref q1, .null, .int 0, .int 0]))] ++ B1) := hD
  refine lv_aload_n hx hb dX6_init_17 rfl (lv_at hl 0 rfl) ?_
  refine lv_bipush (v := 6) hx hb dX6_init_18 (by decide) ?_
  refine c_newa (atype := .int) (a0 := (6, .inl (fun _ => 0))) hx hb (hts _ c_ac_int) rfl (fun _ h => by cases h) hK (t0 := 0) rfl hP hD hS hA (fun _ => rfl) (by decide) (by decide) (Nat.le_of_ble_eq_true rfl) (Nat.le_of_ble_eq_true rfl) (Nat.le_of_ble_eq_true rfl) dX6_init_20 (fun q2 H hP hD hS => ?_)
  have hP : va_P D vwCl ([(h0, .inr (6, [.ref q1, .null, .int 0, .int 0]))] ++ (B1 ++ [(q2, .inl (cI, 6, .inl (fun _ => 0)))])) H := by rw [← List.append_assoc]; exact hP
  have hD : va_D A ([(h0, .inr (6, [.ref q1, .null, .int 0, .int 0]))] ++ (B1 ++ [(q2, .inl (cI, 6, .inl (fun _ => 0)))])) := by rw [← List.append_assoc]; exact hD
  obtain ⟨B2, hB2⟩ : ∃ z : va_W, z = B1 ++ [(q2, .inl (cI, 6, .inl (fun _ => 0)))] := ⟨_, rfl⟩
  rewrite [← hB2] at hP hD
  refine W.widen (k := 9) (n := 1805) (Nat.le_of_ble_eq_true rfl) (Nat.le_of_ble_eq_true rfl) ?_
  refine va_putF (D := D) (ci := 6) (v := .ref q2) (ty := tyX6 1) (C := RX6) (T := TX6) (N := 4) hx hb hts x_in6 tyX6 tyX6_ok nmX6 hown hK hP hD hS 0 rfl rfl 1 (by decide) (hts _ xl_X6_16) (fun _ h9 => h9) rfl hin rfl (tyX6_ok 1 (by decide)) rfl rfl (Nat.le_of_ble_eq_true rfl) dX6_init_22 (fun H locs hP hD hS => ?_)
  have hP : va_P D vwCl ([(h0, .inr (6, [.ref q1, .ref q2, .int 0, .int 0]))] ++ B2) H := hP
  have hD : va_D A ([(h0, .inr (6, [.ref q1, .ref q2, .int 0, .int 0]))] ++ B2) := hD
  refine lv_aload_n hx hb dX6_init_25 rfl (lv_at hl 0 rfl) ?_
  refine lv_iconst (v := 0) hx hb dX6_init_26 (by decide) ?_
  refine va_put (D := D) (ci := 6) (v := .int 0) (ty := tyX6 2) (C := RX6) (T := TX6) (N := 4) hx hb hts x_in6 tyX6 tyX6_ok nmX6 hown hK hP hD hS 0 rfl rfl 2 (by decide) (hts _ xl_X6_20) (fun _ h9 => h9) rfl (tyX6_ok 2 (by decide)) rfl rfl (Nat.le_of_ble_eq_true rfl) dX6_init_27 (fun H locs hP hD hS => ?_)
  have hP : va_P D vwCl ([(h0, .inr (6, [.ref q1, .ref q2, .int 0, .int 0]))] ++ B2) H := hP
  have hD : va_D A ([(h0, .inr (6, [.ref q1, .ref q2, .int 0, .int 0]))] ++ B2) := hD
  refine lv_aload_n hx hb dX6_init_30 rfl (lv_at hl 0 rfl) ?_
  refine lv_iconst (v := 0) hx hb dX6_init_31 (by decide) ?_
  refine va_put (D := D) (ci := 6) (v := .int 0) (ty := tyX6 3) (C := RX6) (T := TX6) (N := 4) hx hb hts x_in6 tyX6 tyX6_ok nmX6 hown hK hP hD hS 0 rfl rfl 3 (by decide) (hts _ xl_X6_24) (fun _ h9 => h9) rfl (tyX6_ok 3 (by decide)) rfl rfl (Nat.le_of_ble_eq_true rfl) dX6_init_32 (fun H locs hP hD hS => ?_)
  have hP : va_P D vwCl ([(h0, .inr (6, [.ref q1, .ref q2, .int 0, .int 0]))] ++ B2) H := hP
  have hD : va_D A ([(h0, .inr (6, [.ref q1, .ref q2, .int 0, .int 0]))] ++ B2) := hD
  rewrite [hB2, hB1, hB0] at hP hD
  have er : (fun i => if i < 7 then some (r1 i) else none) = (fun i => if i < 7 then some ((xj (xj (xj (fun _ => h0) 53 (fun _ => q1)) 54 (fun i => r1 (i - 54))) 61 (fun _ => q2)) (53 + 1 + i)) else none) := by
    funext i
    by_cases h : i < 7
    · rw [if_pos h, if_pos h]
      simp only [xj]
      rw [if_pos (by omega : 53 + 1 + i < 61), if_neg (by omega : ¬ 53 + 1 + i < 54), show 53 + 1 + i - 54 = i by omega]
    · rw [if_neg h, if_neg h]
  rewrite [er] at hP hD
  have hP9 : va_P D vwCl (xb cI cB cZ cQ (xj (xj (xj (fun _ => h0) 53 (fun _ => q1)) 54 (fun i => r1 (i - 54))) 61 (fun _ => q2)) 52 10) H := hP
  have hD9 : va_D A (xb cI cB cZ cQ (xj (xj (xj (fun _ => h0) 53 (fun _ => q1)) 54 (fun i => r1 (i - 54))) 61 (fun _ => q2)) 52 10) := hD
  exact W.vret hx hb hr (fun t ht hW => ⟨⟨(xj (xj (xj (fun _ => h0) 53 (fun _ => q1)) 54 (fun i => r1 (i - 54))) 61 (fun _ => q2)), rfl, trivial, rfl, by rw [ht]; exact hP9, va_K.moved hW.alike hK, hD9⟩, hS.F ht⟩) hS.2.2 dX6_init_35 hlocks
set_option maxHeartbeats 4000000 in
set_option maxRecDepth 100000 in
theorem kc_2_62 (l : Launch) (D : va_G) (cI cB cZ cQ : ClassId) (h0 : Nat) : cM l yX2_init cX2_init 1 1 9 174 D (xtys cI cB cZ cQ) [.ref h0] [(h0, .inr (2, [.null, .null, .null, .int 0, .int 0, .int 0]))] 62 h0 (fun u => xb cI cB cZ cQ u 62 10) := by
  intro sz
  refine Met.ofW (cc := cX2_init) (maxL := 1) (ret := none) (by decide) rfl ?_
  intro p e s m args below meth c s₁ B hml hv
  obtain ⟨rfl, hsz, hP, hK, hD0, hN, hAO⟩ := hv
  have hx := B.exec
  have hb := B.bytes
  have hr := B.returns
  have hts : ∀ w ∈ gT, w.before _ s = true := fun w h => atoms_spec (ws := Cond.code yX2_init cX2_init 1 none :: gT) B.pre w (List.mem_cons_of_mem _ h)
  have hown : s.vm.findClass RX2 = some m.cls := findClass_of_methodNamed B.named
  have hlocks := B.notSynchronized
  have hin : meth.name = "<init>" := (name_of_methodNamed B.named B.method).1
  subst hsz
  have hD := hD0.self (sz := s.heap.size)
  generalize hAe : va_A [(h0, .inr (2, [.null, .null, .null, .int 0, .int 0, .int 0]))] s.heap.size = A at hD ⊢
  have hA : ∀ q : Nat, s.heap.size ≤ q → A q := fun q h => by rw [← hAe]; exact Or.inr h
  have hS : va_S A s.heap s.heap [] := va_S.rf
  have hl := lv_entry ([.ref h0]) (n := 1) (Nat.le_of_ble_eq_true rfl)
  rw [lg_entry_eq]
  generalize (lg_sl ([.ref h0]) ++ List.replicate (1 - (lg_sl ([.ref h0])).length) Slot.unset).toArray = ls at hl ⊢
  have hl : lv_has ls 1 [(0, .ref h0)] := hl
  obtain ⟨B0, hB0⟩ : ∃ z : va_W, z = [] := ⟨_, rfl⟩
  have hP : va_P D vwCl ([(h0, .inr (2, [.null, .null, .null, .int 0, .int 0, .int 0]))] ++ B0) s.heap := by rw [hB0]; exact hP
  have hD : va_D A ([(h0, .inr (2, [.null, .null, .null, .int 0, .int 0, .int 0]))] ++ B0) := by rw [hB0]; exact hD
  refine lv_aload_n hx hb dX2_init_0 rfl (lv_at hl 0 rfl) ?_
  refine W.objInit hx hb hown (hts _ c_oi2) (hts _ c_ob.1) (hts _ c_ob.2) rfl (by rw [hml]; exact hl.1) rfl dX2_init_1 (Nat.le_of_ble_eq_true rfl) (Nat.le_of_ble_eq_true rfl) ?_
  refine W.eq (g2 := F0 m 4 ls []) rfl ?_
  refine lv_aload_n hx hb dX2_init_4 rfl (lv_at hl 0 rfl) ?_
  refine lv_bipush (v := 6) hx hb dX2_init_5 (by decide) ?_
  refine lv_bipush (v := 21) hx hb dX2_init_7 (by decide) ?_
  refine c_mna (N' := 6) (K' := 21) hx hb hown (hts _ c_qq2) hAO (hts _ c_ac_int) hK rfl rfl hP hD hS hA (by decide) (by decide) (by decide) (by decide) (Nat.le_of_ble_eq_true rfl) (Nat.le_of_ble_eq_true rfl) (Nat.le_of_ble_eq_true rfl) (Nat.le_of_ble_eq_true rfl) (Nat.le_of_ble_eq_true rfl) dX2_init_9 (fun q1 r1 H hP hD hS => ?_)
  have hP : va_P D vwCl ([(h0, .inr (2, [.null, .null, .null, .int 0, .int 0, .int 0]))] ++ (B0 ++ ([(q1, .inl (cQ, 6, .inr (.inr (.inr (.inr (fun i => if i < 6 then some (r1 i) else none))))))] ++ (List.range 6).map (fun i => (r1 i, .inl (cI, 21, .inl (fun _ => 0))))))) H := by rw [← List.append_assoc, ← List.append_assoc]; exact hP
  have hD : va_D A ([(h0, .inr (2, [.null, .null, .null, .int 0, .int 0, .int 0]))] ++ (B0 ++ ([(q1, .inl (cQ, 6, .inr (.inr (.inr (.inr (fun i => if i < 6 then some (r1 i) else none))))))] ++ (List.range 6).map (fun i => (r1 i, .inl (cI, 21, .inl (fun _ => 0))))))) := by rw [← List.append_assoc, ← List.append_assoc]; exact hD
  obtain ⟨B1, hB1⟩ : ∃ z : va_W, z = B0 ++ ([(q1, .inl (cQ, 6, .inr (.inr (.inr (.inr (fun i => if i < 6 then some (r1 i) else none))))))] ++ (List.range 6).map (fun i => (r1 i, .inl (cI, 21, .inl (fun _ => 0))))) := ⟨_, rfl⟩
  rewrite [← hB1] at hP hD
  refine W.widen (k := 7) (n := 132) (Nat.le_of_ble_eq_true rfl) (Nat.le_of_ble_eq_true rfl) ?_
  refine va_putF (D := D) (ci := 2) (v := .ref q1) (ty := tyX2 0) (C := RX2) (T := TX2) (N := 6) hx hb hts x_in2 tyX2 tyX2_ok nmX2 hown hK hP hD hS 0 rfl rfl 0 (by decide) (hts _ xl_X2_11) (fun _ h9 => h9) rfl hin rfl (tyX2_ok 0 (by decide)) rfl rfl (Nat.le_of_ble_eq_true rfl) dX2_init_13 (fun H locs hP hD hS => ?_)
  have hP : va_P D vwCl ([(h0, .inr (2, [.ref q1, .null, .null, .int 0, .int 0, .int 0]))] ++ B1) H := hP
  have hD : va_D A ([(h0, .inr (2, [.ref q1, .null, .null, .int 0, .int 0, .int 0]))] ++ B1) := hD
  refine lv_aload_n hx hb dX2_init_16 rfl (lv_at hl 0 rfl) ?_
  refine lv_bipush (v := 21) hx hb dX2_init_17 (by decide) ?_
  refine c_newa (atype := .int) (a0 := (21, .inl (fun _ => 0))) hx hb (hts _ c_ac_int) rfl (fun _ h => by cases h) hK (t0 := 0) rfl hP hD hS hA (fun _ => rfl) (by decide) (by decide) (Nat.le_of_ble_eq_true rfl) (Nat.le_of_ble_eq_true rfl) (Nat.le_of_ble_eq_true rfl) dX2_init_19 (fun q2 H hP hD hS => ?_)
  have hP : va_P D vwCl ([(h0, .inr (2, [.ref q1, .null, .null, .int 0, .int 0, .int 0]))] ++ (B1 ++ [(q2, .inl (cI, 21, .inl (fun _ => 0)))])) H := by rw [← List.append_assoc]; exact hP
  have hD : va_D A ([(h0, .inr (2, [.ref q1, .null, .null, .int 0, .int 0, .int 0]))] ++ (B1 ++ [(q2, .inl (cI, 21, .inl (fun _ => 0)))])) := by rw [← List.append_assoc]; exact hD
  obtain ⟨B2, hB2⟩ : ∃ z : va_W, z = B1 ++ [(q2, .inl (cI, 21, .inl (fun _ => 0)))] := ⟨_, rfl⟩
  rewrite [← hB2] at hP hD
  refine W.widen (k := 8) (n := 153) (Nat.le_of_ble_eq_true rfl) (Nat.le_of_ble_eq_true rfl) ?_
  refine va_putF (D := D) (ci := 2) (v := .ref q2) (ty := tyX2 1) (C := RX2) (T := TX2) (N := 6) hx hb hts x_in2 tyX2 tyX2_ok nmX2 hown hK hP hD hS 0 rfl rfl 1 (by decide) (hts _ xl_X2_16) (fun _ h9 => h9) rfl hin rfl (tyX2_ok 1 (by decide)) rfl rfl (Nat.le_of_ble_eq_true rfl) dX2_init_21 (fun H locs hP hD hS => ?_)
  have hP : va_P D vwCl ([(h0, .inr (2, [.ref q1, .ref q2, .null, .int 0, .int 0, .int 0]))] ++ B2) H := hP
  have hD : va_D A ([(h0, .inr (2, [.ref q1, .ref q2, .null, .int 0, .int 0, .int 0]))] ++ B2) := hD
  refine lv_aload_n hx hb dX2_init_24 rfl (lv_at hl 0 rfl) ?_
  refine lv_bipush (v := 21) hx hb dX2_init_25 (by decide) ?_
  refine c_newa (atype := .int) (a0 := (21, .inl (fun _ => 0))) hx hb (hts _ c_ac_int) rfl (fun _ h => by cases h) hK (t0 := 0) rfl hP hD hS hA (fun _ => rfl) (by decide) (by decide) (Nat.le_of_ble_eq_true rfl) (Nat.le_of_ble_eq_true rfl) (Nat.le_of_ble_eq_true rfl) dX2_init_27 (fun q3 H hP hD hS => ?_)
  have hP : va_P D vwCl ([(h0, .inr (2, [.ref q1, .ref q2, .null, .int 0, .int 0, .int 0]))] ++ (B2 ++ [(q3, .inl (cI, 21, .inl (fun _ => 0)))])) H := by rw [← List.append_assoc]; exact hP
  have hD : va_D A ([(h0, .inr (2, [.ref q1, .ref q2, .null, .int 0, .int 0, .int 0]))] ++ (B2 ++ [(q3, .inl (cI, 21, .inl (fun _ => 0)))])) := by rw [← List.append_assoc]; exact hD
  obtain ⟨B3, hB3⟩ : ∃ z : va_W, z = B2 ++ [(q3, .inl (cI, 21, .inl (fun _ => 0)))] := ⟨_, rfl⟩
  rewrite [← hB3] at hP hD
  refine W.widen (k := 9) (n := 174) (Nat.le_of_ble_eq_true rfl) (Nat.le_of_ble_eq_true rfl) ?_
  refine va_putF (D := D) (ci := 2) (v := .ref q3) (ty := tyX2 2) (C := RX2) (T := TX2) (N := 6) hx hb hts x_in2 tyX2 tyX2_ok nmX2 hown hK hP hD hS 0 rfl rfl 2 (by decide) (hts _ xl_X2_20) (fun _ h9 => h9) rfl hin rfl (tyX2_ok 2 (by decide)) rfl rfl (Nat.le_of_ble_eq_true rfl) dX2_init_29 (fun H locs hP hD hS => ?_)
  have hP : va_P D vwCl ([(h0, .inr (2, [.ref q1, .ref q2, .ref q3, .int 0, .int 0, .int 0]))] ++ B3) H := hP
  have hD : va_D A ([(h0, .inr (2, [.ref q1, .ref q2, .ref q3, .int 0, .int 0, .int 0]))] ++ B3) := hD
  refine lv_aload_n hx hb dX2_init_32 rfl (lv_at hl 0 rfl) ?_
  refine lv_iconst (v := 0) hx hb dX2_init_33 (by decide) ?_
  refine va_put (D := D) (ci := 2) (v := .int 0) (ty := tyX2 3) (C := RX2) (T := TX2) (N := 6) hx hb hts x_in2 tyX2 tyX2_ok nmX2 hown hK hP hD hS 0 rfl rfl 3 (by decide) (hts _ xl_X2_23) (fun _ h9 => h9) rfl (tyX2_ok 3 (by decide)) rfl rfl (Nat.le_of_ble_eq_true rfl) dX2_init_34 (fun H locs hP hD hS => ?_)
  have hP : va_P D vwCl ([(h0, .inr (2, [.ref q1, .ref q2, .ref q3, .int 0, .int 0, .int 0]))] ++ B3) H := hP
  have hD : va_D A ([(h0, .inr (2, [.ref q1, .ref q2, .ref q3, .int 0, .int 0, .int 0]))] ++ B3) := hD
  refine lv_aload_n hx hb dX2_init_37 rfl (lv_at hl 0 rfl) ?_
  refine lv_iconst (v := (-1)) hx hb dX2_init_38 (by decide) ?_
  refine va_put (D := D) (ci := 2) (v := .int (-1)) (ty := tyX2 4) (C := RX2) (T := TX2) (N := 6) hx hb hts x_in2 tyX2 tyX2_ok nmX2 hown hK hP hD hS 0 rfl rfl 4 (by decide) (hts _ xl_X2_27) (fun _ h9 => h9) rfl (tyX2_ok 4 (by decide)) rfl rfl (Nat.le_of_ble_eq_true rfl) dX2_init_39 (fun H locs hP hD hS => ?_)
  have hP : va_P D vwCl ([(h0, .inr (2, [.ref q1, .ref q2, .ref q3, .int 0, .int (-1), .int 0]))] ++ B3) H := hP
  have hD : va_D A ([(h0, .inr (2, [.ref q1, .ref q2, .ref q3, .int 0, .int (-1), .int 0]))] ++ B3) := hD
  refine lv_aload_n hx hb dX2_init_42 rfl (lv_at hl 0 rfl) ?_
  refine lv_iconst (v := 1) hx hb dX2_init_43 (by decide) ?_
  refine va_put (D := D) (ci := 2) (v := .int 1) (ty := tyX2 5) (C := RX2) (T := TX2) (N := 6) hx hb hts x_in2 tyX2 tyX2_ok nmX2 hown hK hP hD hS 0 rfl rfl 5 (by decide) (hts _ xl_X2_30) (fun _ h9 => h9) rfl (tyX2_ok 5 (by decide)) rfl rfl (Nat.le_of_ble_eq_true rfl) dX2_init_44 (fun H locs hP hD hS => ?_)
  have hP : va_P D vwCl ([(h0, .inr (2, [.ref q1, .ref q2, .ref q3, .int 0, .int (-1), .int 1]))] ++ B3) H := hP
  have hD : va_D A ([(h0, .inr (2, [.ref q1, .ref q2, .ref q3, .int 0, .int (-1), .int 1]))] ++ B3) := hD
  rewrite [hB3, hB2, hB1, hB0] at hP hD
  have er : (fun i => if i < 6 then some (r1 i) else none) = (fun i => if i < 6 then some ((xj (xj (xj (xj (fun _ => h0) 63 (fun _ => q1)) 64 (fun i => r1 (i - 64))) 70 (fun _ => q2)) 71 (fun _ => q3)) (63 + 1 + i)) else none) := by
    funext i
    by_cases h : i < 6
    · rw [if_pos h, if_pos h]
      simp only [xj]
      rw [if_pos (by omega : 63 + 1 + i < 71), if_pos (by omega : 63 + 1 + i < 70), if_neg (by omega : ¬ 63 + 1 + i < 64), show 63 + 1 + i - 64 = i by omega]
    · rw [if_neg h, if_neg h]
  rewrite [er] at hP hD
  have hP9 : va_P D vwCl (xb cI cB cZ cQ (xj (xj (xj (xj (fun _ => h0) 63 (fun _ => q1)) 64 (fun i => r1 (i - 64))) 70 (fun _ => q2)) 71 (fun _ => q3)) 62 10) H := hP
  have hD9 : va_D A (xb cI cB cZ cQ (xj (xj (xj (xj (fun _ => h0) 63 (fun _ => q1)) 64 (fun i => r1 (i - 64))) 70 (fun _ => q2)) 71 (fun _ => q3)) 62 10) := hD
  exact W.vret hx hb hr (fun t ht hW => ⟨⟨(xj (xj (xj (xj (fun _ => h0) 63 (fun _ => q1)) 64 (fun i => r1 (i - 64))) 70 (fun _ => q2)) 71 (fun _ => q3)), rfl, trivial, rfl, by rw [ht]; exact hP9, va_K.moved hW.alike hK, hD9⟩, hS.F ht⟩) hS.2.2 dX2_init_47 hlocks
theorem kc_4_82 (l : Launch) (D : va_G) (cI cB cZ cQ : ClassId) (h0 : Nat) : cM l yX4_init cX4_init 2 1 2 731 D (xtys cI cB cZ cQ) [.ref h0, .int 0] [(h0, .inr (4, [.null, .null, .int 0, .int 0]))] 82 h0 (fun u => xb cI cB cZ cQ u 82 3) :=
  kg_4 l D cI cB cZ cQ h0 0 rfl rfl 82 _ (fun q1 q2 => ⟨(xj (xj (fun _ => h0) 83 (fun _ => q1)) 84 (fun _ => q2)), rfl, rfl⟩)
theorem kc_4_85 (l : Launch) (D : va_G) (cI cB cZ cQ : ClassId) (h0 : Nat) : cM l yX4_init cX4_init 2 1 2 731 D (xtys cI cB cZ cQ) [.ref h0, .int 1] [(h0, .inr (4, [.null, .null, .int 0, .int 0]))] 85 h0 (fun u => xb cI cB cZ cQ u 85 3) :=
  kg_4 l D cI cB cZ cQ h0 1 rfl rfl 85 _ (fun q1 q2 => ⟨(xj (xj (fun _ => h0) 86 (fun _ => q1)) 87 (fun _ => q2)), rfl, rfl⟩)
set_option maxHeartbeats 4000000 in
set_option maxRecDepth 100000 in
theorem kc_9_72 (l : Launch) (D : va_G) (cI cB cZ cQ : ClassId) (h0 : Nat) : cM l yX9_init cX9_init 1 2 15 1534 D (xtys cI cB cZ cQ) [.ref h0] [(h0, .inr (9, [.int 0, .null, .null, .null, .null, .int 0, .null, .null, .null, .null, .int 0, .null, .int 0, .null, .null]))] 72 h0 (fun u => xb cI cB cZ cQ u 72 16) := by
  intro sz
  refine Met.ofW (cc := cX9_init) (maxL := 1) (ret := none) (by decide) rfl ?_
  intro p e s m args below meth c s₁ B hml hv
  obtain ⟨rfl, hsz, hP, hK, hD0, hN, hAO⟩ := hv
  have hx := B.exec
  have hb := B.bytes
  have hr := B.returns
  have hts : ∀ w ∈ gT, w.before _ s = true := fun w h => atoms_spec (ws := Cond.code yX9_init cX9_init 1 none :: gT) B.pre w (List.mem_cons_of_mem _ h)
  have hown : s.vm.findClass RX9 = some m.cls := findClass_of_methodNamed B.named
  have hlocks := B.notSynchronized
  have hin : meth.name = "<init>" := (name_of_methodNamed B.named B.method).1
  subst hsz
  have hD := hD0.self (sz := s.heap.size)
  generalize hAe : va_A [(h0, .inr (9, [.int 0, .null, .null, .null, .null, .int 0, .null, .null, .null, .null, .int 0, .null, .int 0, .null, .null]))] s.heap.size = A at hD ⊢
  have hA : ∀ q : Nat, s.heap.size ≤ q → A q := fun q h => by rw [← hAe]; exact Or.inr h
  have hS : va_S A s.heap s.heap [] := va_S.rf
  have hl := lv_entry ([.ref h0]) (n := 1) (Nat.le_of_ble_eq_true rfl)
  rw [lg_entry_eq]
  generalize (lg_sl ([.ref h0]) ++ List.replicate (1 - (lg_sl ([.ref h0])).length) Slot.unset).toArray = ls at hl ⊢
  have hl : lv_has ls 1 [(0, .ref h0)] := hl
  obtain ⟨B0, hB0⟩ : ∃ z : va_W, z = [] := ⟨_, rfl⟩
  have hP : va_P D vwCl ([(h0, .inr (9, [.int 0, .null, .null, .null, .null, .int 0, .null, .null, .null, .null, .int 0, .null, .int 0, .null, .null]))] ++ B0) s.heap := by rw [hB0]; exact hP
  have hD : va_D A ([(h0, .inr (9, [.int 0, .null, .null, .null, .null, .int 0, .null, .null, .null, .null, .int 0, .null, .int 0, .null, .null]))] ++ B0) := by rw [hB0]; exact hD
  refine lv_aload_n hx hb dX9_init_0 rfl (lv_at hl 0 rfl) ?_
  refine W.objInit hx hb hown (hts _ c_oi9) (hts _ c_ob.1) (hts _ c_ob.2) rfl (by rw [hml]; exact hl.1) rfl dX9_init_1 (Nat.le_of_ble_eq_true rfl) (Nat.le_of_ble_eq_true rfl) ?_
  refine W.eq (g2 := F0 m 4 ls []) rfl ?_
  refine lv_aload_n hx hb dX9_init_4 rfl (lv_at hl 0 rfl) ?_
  refine lv_iconst (v := 0) hx hb dX9_init_5 (by decide) ?_
  refine va_put (D := D) (ci := 9) (v := .int 0) (ty := tyX9 0) (C := RX9) (T := TX9) (N := 15) hx hb hts x_in9 tyX9 tyX9_ok nmX9 hown hK hP hD hS 0 rfl rfl 0 (by decide) (hts _ xl_X9_9) (fun _ h9 => h9) rfl (tyX9_ok 0 (by decide)) rfl rfl (Nat.le_of_ble_eq_true rfl) dX9_init_6 (fun H locs hP hD hS => ?_)
  have hP : va_P D vwCl ([(h0, .inr (9, [.int 0, .null, .null, .null, .null, .int 0, .null, .null, .null, .null, .int 0, .null, .int 0, .null, .null]))] ++ B0) H := hP
  have hD : va_D A ([(h0, .inr (9, [.int 0, .null, .null, .null, .null, .int 0, .null, .null, .null, .null, .int 0, .null, .int 0, .null, .null]))] ++ B0) := hD
  refine lv_aload_n hx hb dX9_init_9 rfl (lv_at hl 0 rfl) ?_
  refine lv_bipush (v := 8) hx hb dX9_init_10 (by decide) ?_
  refine c_newa (atype := .int) (a0 := (8, .inl (fun _ => 0))) hx hb (hts _ c_ac_int) rfl (fun _ h => by cases h) hK (t0 := 0) rfl hP hD hS hA (fun _ => rfl) (by decide) (by decide) (Nat.le_of_ble_eq_true rfl) (Nat.le_of_ble_eq_true rfl) (Nat.le_of_ble_eq_true rfl) dX9_init_12 (fun q1 H hP hD hS => ?_)
  have hP : va_P D vwCl ([(h0, .inr (9, [.int 0, .null, .null, .null, .null, .int 0, .null, .null, .null, .null, .int 0, .null, .int 0, .null, .null]))] ++ (B0 ++ [(q1, .inl (cI, 8, .inl (fun _ => 0)))])) H := by rw [← List.append_assoc]; exact hP
  have hD : va_D A ([(h0, .inr (9, [.int 0, .null, .null, .null, .null, .int 0, .null, .null, .null, .null, .int 0, .null, .int 0, .null, .null]))] ++ (B0 ++ [(q1, .inl (cI, 8, .inl (fun _ => 0)))])) := by rw [← List.append_assoc]; exact hD
  obtain ⟨B1, hB1⟩ : ∃ z : va_W, z = B0 ++ [(q1, .inl (cI, 8, .inl (fun _ => 0)))] := ⟨_, rfl⟩
  rewrite [← hB1] at hP hD
  refine W.widen (k := 1) (n := 8) (Nat.le_of_ble_eq_true rfl) (Nat.le_of_ble_eq_true rfl) ?_
  refine va_putF (D := D) (ci := 9) (v := .ref q1) (ty := tyX9 1) (C := RX9) (T := TX9) (N := 15) hx hb hts x_in9 tyX9 tyX9_ok nmX9 hown hK hP hD hS 0 rfl rfl 1 (by decide) (hts _ xl_X9_15) (fun _ h9 => h9) rfl hin rfl (tyX9_ok 1 (by decide)) rfl rfl (Nat.le_of_ble_eq_true rfl) dX9_init_14 (fun H locs hP hD hS => ?_)
  have hP : va_P D vwCl ([(h0, .inr (9, [.int 0, .ref q1, .null, .null, .null, .int 0, .null, .null, .null, .null, .int 0, .null, .int 0, .null, .null]))] ++ B1) H := hP
  have hD : va_D A ([(h0, .inr (9, [.int 0, .ref q1, .null, .null, .null, .int 0, .null, .null, .null, .null, .int 0, .null, .int 0, .null, .null]))] ++ B1) := hD
  refine lv_aload_n hx hb dX9_init_17 rfl (lv_at hl 0 rfl) ?_
  refine lv_bipush (v := 8) hx hb dX9_init_18 (by decide) ?_
  refine c_newa (atype := .int) (a0 := (8, .inl (fun _ => 0))) hx hb (hts _ c_ac_int) rfl (fun _ h => by cases h) hK (t0 := 0) rfl hP hD hS hA (fun _ => rfl) (by decide) (by decide) (Nat.le_of_ble_eq_true rfl) (Nat.le_of_ble_eq_true rfl) (Nat.le_of_ble_eq_true rfl) dX9_init_20 (fun q2 H hP hD hS => ?_)
  have hP : va_P D vwCl ([(h0, .inr (9, [.int 0, .ref q1, .null, .null, .null, .int 0, .null, .null, .null, .null, .int 0, .null, .int 0, .null, .null]))] ++ (B1 ++ [(q2, .inl (cI, 8, .inl (fun _ => 0)))])) H := by rw [← List.append_assoc]; exact hP
  have hD : va_D A ([(h0, .inr (9, [.int 0, .ref q1, .null, .null, .null, .int 0, .null, .null, .null, .null, .int 0, .null, .int 0, .null, .null]))] ++ (B1 ++ [(q2, .inl (cI, 8, .inl (fun _ => 0)))])) := by rw [← List.append_assoc]; exact hD
  obtain ⟨B2, hB2⟩ : ∃ z : va_W, z = B1 ++ [(q2, .inl (cI, 8, .inl (fun _ => 0)))] := ⟨_, rfl⟩
  rewrite [← hB2] at hP hD
  refine W.widen (k := 2) (n := 16) (Nat.le_of_ble_eq_true rfl) (Nat.le_of_ble_eq_true rfl) ?_
  refine va_putF (D := D) (ci := 9) (v := .ref q2) (ty := tyX9 2) (C := RX9) (T := TX9) (N := 15) hx hb hts x_in9 tyX9 tyX9_ok nmX9 hown hK hP hD hS 0 rfl rfl 2 (by decide) (hts _ xl_X9_19) (fun _ h9 => h9) rfl hin rfl (tyX9_ok 2 (by decide)) rfl rfl (Nat.le_of_ble_eq_true rfl) dX9_init_22 (fun H locs hP hD hS => ?_)
  have hP : va_P D vwCl ([(h0, .inr (9, [.int 0, .ref q1, .ref q2, .null, .null, .int 0, .null, .null, .null, .null, .int 0, .null, .int 0, .null, .null]))] ++ B2) H := hP
  have hD : va_D A ([(h0, .inr (9, [.int 0, .ref q1, .ref q2, .null, .null, .int 0, .null, .null, .null, .null, .int 0, .null, .int 0, .null, .null]))] ++ B2) := hD
  refine lv_aload_n hx hb dX9_init_25 rfl (lv_at hl 0 rfl) ?_
  refine lv_bipush (v := 8) hx hb dX9_init_26 (by decide) ?_
  refine c_newa (atype := .int) (a0 := (8, .inl (fun _ => 0))) hx hb (hts _ c_ac_int) rfl (fun _ h => by cases h) hK (t0 := 0) rfl hP hD hS hA (fun _ => rfl) (by decide) (by decide) (Nat.le_of_ble_eq_true rfl) (Nat.le_of_ble_eq_true rfl) (Nat.le_of_ble_eq_true rfl) dX9_init_28 (fun q3 H hP hD hS => ?_)
  have hP : va_P D vwCl ([(h0, .inr (9, [.int 0, .ref q1, .ref q2, .null, .null, .int 0, .null, .null, .null, .null, .int 0, .null, .int 0, .null, .null]))] ++ (B2 ++ [(q3, .inl (cI, 8, .inl (fun _ => 0)))])) H := by rw [← List.append_assoc]; exact hP
  have hD : va_D A ([(h0, .inr (9, [.int 0, .ref q1, .ref q2, .null, .null, .int 0, .null, .null, .null, .null, .int 0, .null, .int 0, .null, .null]))] ++ (B2 ++ [(q3, .inl (cI, 8, .inl (fun _ => 0)))])) := by rw [← List.append_assoc]; exact hD
  obtain ⟨B3, hB3⟩ : ∃ z : va_W, z = B2 ++ [(q3, .inl (cI, 8, .inl (fun _ => 0)))] := ⟨_, rfl⟩
  rewrite [← hB3] at hP hD
  refine W.widen (k := 3) (n := 24) (Nat.le_of_ble_eq_true rfl) (Nat.le_of_ble_eq_true rfl) ?_
  refine va_putF (D := D) (ci := 9) (v := .ref q3) (ty := tyX9 3) (C := RX9) (T := TX9) (N := 15) hx hb hts x_in9 tyX9 tyX9_ok nmX9 hown hK hP hD hS 0 rfl rfl 3 (by decide) (hts _ xl_X9_22) (fun _ h9 => h9) rfl hin rfl (tyX9_ok 3 (by decide)) rfl rfl (Nat.le_of_ble_eq_true rfl) dX9_init_30 (fun H locs hP hD hS => ?_)
  have hP : va_P D vwCl ([(h0, .inr (9, [.int 0, .ref q1, .ref q2, .ref q3, .null, .int 0, .null, .null, .null, .null, .int 0, .null, .int 0, .null, .null]))] ++ B3) H := hP
  have hD : va_D A ([(h0, .inr (9, [.int 0, .ref q1, .ref q2, .ref q3, .null, .int 0, .null, .null, .null, .null, .int 0, .null, .int 0, .null, .null]))] ++ B3) := hD
  refine lv_aload_n hx hb dX9_init_33 rfl (lv_at hl 0 rfl) ?_
  refine lv_bipush (v := 8) hx hb dX9_init_34 (by decide) ?_
  refine c_newa (atype := .boolean) (a0 := (8, .inl (fun _ => 0))) hx hb (hts _ c_ac_boolean) rfl (fun _ h => by cases h) hK (t0 := 2) rfl hP hD hS hA (fun _ => rfl) (by decide) (by decide) (Nat.le_of_ble_eq_true rfl) (Nat.le_of_ble_eq_true rfl) (Nat.le_of_ble_eq_true rfl) dX9_init_36 (fun q4 H hP hD hS => ?_)
  have hP : va_P D vwCl ([(h0, .inr (9, [.int 0, .ref q1, .ref q2, .ref q3, .null, .int 0, .null, .null, .null, .null, .int 0, .null, .int 0, .null, .null]))] ++ (B3 ++ [(q4, .inl (cZ, 8, .inl (fun _ => 0)))])) H := by rw [← List.append_assoc]; exact hP
  have hD : va_D A ([(h0, .inr (9, [.int 0, .ref q1, .ref q2, .ref q3, .null, .int 0, .null, .null, .null, .null, .int 0, .null, .int 0, .null, .null]))] ++ (B3 ++ [(q4, .inl (cZ, 8, .inl (fun _ => 0)))])) := by rw [← List.append_assoc]; exact hD
  obtain ⟨B4, hB4⟩ : ∃ z : va_W, z = B3 ++ [(q4, .inl (cZ, 8, .inl (fun _ => 0)))] := ⟨_, rfl⟩
  rewrite [← hB4] at hP hD
  refine W.widen (k := 4) (n := 32) (Nat.le_of_ble_eq_true rfl) (Nat.le_of_ble_eq_true rfl) ?_
  refine va_putF (D := D) (ci := 9) (v := .ref q4) (ty := tyX9 4) (C := RX9) (T := TX9) (N := 15) hx hb hts x_in9 tyX9 tyX9_ok nmX9 hown hK hP hD hS 0 rfl rfl 4 (by decide) (hts _ xl_X9_25) (fun _ h9 => h9) rfl hin rfl (tyX9_ok 4 (by decide)) rfl rfl (Nat.le_of_ble_eq_true rfl) dX9_init_38 (fun H locs hP hD hS => ?_)
  have hP : va_P D vwCl ([(h0, .inr (9, [.int 0, .ref q1, .ref q2, .ref q3, .ref q4, .int 0, .null, .null, .null, .null, .int 0, .null, .int 0, .null, .null]))] ++ B4) H := hP
  have hD : va_D A ([(h0, .inr (9, [.int 0, .ref q1, .ref q2, .ref q3, .ref q4, .int 0, .null, .null, .null, .null, .int 0, .null, .int 0, .null, .null]))] ++ B4) := hD
  refine lv_aload_n hx hb dX9_init_41 rfl (lv_at hl 0 rfl) ?_
  refine lv_iconst (v := 0) hx hb dX9_init_42 (by decide) ?_
  refine va_put (D := D) (ci := 9) (v := .int 0) (ty := tyX9 5) (C := RX9) (T := TX9) (N := 15) hx hb hts x_in9 tyX9 tyX9_ok nmX9 hown hK hP hD hS 0 rfl rfl 5 (by decide) (hts _ xl_X9_29) (fun _ h9 => h9) rfl (tyX9_ok 5 (by decide)) rfl rfl (Nat.le_of_ble_eq_true rfl) dX9_init_43 (fun H locs hP hD hS => ?_)
  have hP : va_P D vwCl ([(h0, .inr (9, [.int 0, .ref q1, .ref q2, .ref q3, .ref q4, .int 0, .null, .null, .null, .null, .int 0, .null, .int 0, .null, .null]))] ++ B4) H := hP
  have hD : va_D A ([(h0, .inr (9, [.int 0, .ref q1, .ref q2, .ref q3, .ref q4, .int 0, .null, .null, .null, .null, .int 0, .null, .int 0, .null, .null]))] ++ B4) := hD
  refine lv_aload_n hx hb dX9_init_46 rfl (lv_at hl 0 rfl) ?_
  refine lv_bipush (v := 6) hx hb dX9_init_47 (by decide) ?_
  refine c_newa (atype := .int) (a0 := (6, .inl (fun _ => 0))) hx hb (hts _ c_ac_int) rfl (fun _ h => by cases h) hK (t0 := 0) rfl hP hD hS hA (fun _ => rfl) (by decide) (by decide) (Nat.le_of_ble_eq_true rfl) (Nat.le_of_ble_eq_true rfl) (Nat.le_of_ble_eq_true rfl) dX9_init_49 (fun q5 H hP hD hS => ?_)
  have hP : va_P D vwCl ([(h0, .inr (9, [.int 0, .ref q1, .ref q2, .ref q3, .ref q4, .int 0, .null, .null, .null, .null, .int 0, .null, .int 0, .null, .null]))] ++ (B4 ++ [(q5, .inl (cI, 6, .inl (fun _ => 0)))])) H := by rw [← List.append_assoc]; exact hP
  have hD : va_D A ([(h0, .inr (9, [.int 0, .ref q1, .ref q2, .ref q3, .ref q4, .int 0, .null, .null, .null, .null, .int 0, .null, .int 0, .null, .null]))] ++ (B4 ++ [(q5, .inl (cI, 6, .inl (fun _ => 0)))])) := by rw [← List.append_assoc]; exact hD
  obtain ⟨B5, hB5⟩ : ∃ z : va_W, z = B4 ++ [(q5, .inl (cI, 6, .inl (fun _ => 0)))] := ⟨_, rfl⟩
  rewrite [← hB5] at hP hD
  refine W.widen (k := 5) (n := 38) (Nat.le_of_ble_eq_true rfl) (Nat.le_of_ble_eq_true rfl) ?_
  refine va_putF (D := D) (ci := 9) (v := .ref q5) (ty := tyX9 6) (C := RX9) (T := TX9) (N := 15) hx hb hts x_in9 tyX9 tyX9_ok nmX9 hown hK hP hD hS 0 rfl rfl 6 (by decide) (hts _ xl_X9_32) (fun _ h9 => h9) rfl hin rfl (tyX9_ok 6 (by decide)) rfl rfl (Nat.le_of_ble_eq_true rfl) dX9_init_51 (fun H locs hP hD hS => ?_)
  have hP : va_P D vwCl ([(h0, .inr (9, [.int 0, .ref q1, .ref q2, .ref q3, .ref q4, .int 0, .ref q5, .null, .null, .null, .int 0, .null, .int 0, .null, .null]))] ++ B5) H := hP
  have hD : va_D A ([(h0, .inr (9, [.int 0, .ref q1, .ref q2, .ref q3, .ref q4, .int 0, .ref q5, .null, .null, .null, .int 0, .null, .int 0, .null, .null]))] ++ B5) := hD
  refine lv_aload_n hx hb dX9_init_54 rfl (lv_at hl 0 rfl) ?_
  refine lv_bipush (v := 6) hx hb dX9_init_55 (by decide) ?_
  refine c_newa (atype := .int) (a0 := (6, .inl (fun _ => 0))) hx hb (hts _ c_ac_int) rfl (fun _ h => by cases h) hK (t0 := 0) rfl hP hD hS hA (fun _ => rfl) (by decide) (by decide) (Nat.le_of_ble_eq_true rfl) (Nat.le_of_ble_eq_true rfl) (Nat.le_of_ble_eq_true rfl) dX9_init_57 (fun q6 H hP hD hS => ?_)
  have hP : va_P D vwCl ([(h0, .inr (9, [.int 0, .ref q1, .ref q2, .ref q3, .ref q4, .int 0, .ref q5, .null, .null, .null, .int 0, .null, .int 0, .null, .null]))] ++ (B5 ++ [(q6, .inl (cI, 6, .inl (fun _ => 0)))])) H := by rw [← List.append_assoc]; exact hP
  have hD : va_D A ([(h0, .inr (9, [.int 0, .ref q1, .ref q2, .ref q3, .ref q4, .int 0, .ref q5, .null, .null, .null, .int 0, .null, .int 0, .null, .null]))] ++ (B5 ++ [(q6, .inl (cI, 6, .inl (fun _ => 0)))])) := by rw [← List.append_assoc]; exact hD
  obtain ⟨B6, hB6⟩ : ∃ z : va_W, z = B5 ++ [(q6, .inl (cI, 6, .inl (fun _ => 0)))] := ⟨_, rfl⟩
  rewrite [← hB6] at hP hD
  refine W.widen (k := 6) (n := 44) (Nat.le_of_ble_eq_true rfl) (Nat.le_of_ble_eq_true rfl) ?_
  refine va_putF (D := D) (ci := 9) (v := .ref q6) (ty := tyX9 7) (C := RX9) (T := TX9) (N := 15) hx hb hts x_in9 tyX9 tyX9_ok nmX9 hown hK hP hD hS 0 rfl rfl 7 (by decide) (hts _ xl_X9_35) (fun _ h9 => h9) rfl hin rfl (tyX9_ok 7 (by decide)) rfl rfl (Nat.le_of_ble_eq_true rfl) dX9_init_59 (fun H locs hP hD hS => ?_)
  have hP : va_P D vwCl ([(h0, .inr (9, [.int 0, .ref q1, .ref q2, .ref q3, .ref q4, .int 0, .ref q5, .ref q6, .null, .null, .int 0, .null, .int 0, .null, .null]))] ++ B6) H := hP
  have hD : va_D A ([(h0, .inr (9, [.int 0, .ref q1, .ref q2, .ref q3, .ref q4, .int 0, .ref q5, .ref q6, .null, .null, .int 0, .null, .int 0, .null, .null]))] ++ B6) := hD
  refine lv_aload_n hx hb dX9_init_62 rfl (lv_at hl 0 rfl) ?_
  refine lv_bipush (v := 6) hx hb dX9_init_63 (by decide) ?_
  refine c_newa (atype := .int) (a0 := (6, .inl (fun _ => 0))) hx hb (hts _ c_ac_int) rfl (fun _ h => by cases h) hK (t0 := 0) rfl hP hD hS hA (fun _ => rfl) (by decide) (by decide) (Nat.le_of_ble_eq_true rfl) (Nat.le_of_ble_eq_true rfl) (Nat.le_of_ble_eq_true rfl) dX9_init_65 (fun q7 H hP hD hS => ?_)
  have hP : va_P D vwCl ([(h0, .inr (9, [.int 0, .ref q1, .ref q2, .ref q3, .ref q4, .int 0, .ref q5, .ref q6, .null, .null, .int 0, .null, .int 0, .null, .null]))] ++ (B6 ++ [(q7, .inl (cI, 6, .inl (fun _ => 0)))])) H := by rw [← List.append_assoc]; exact hP
  have hD : va_D A ([(h0, .inr (9, [.int 0, .ref q1, .ref q2, .ref q3, .ref q4, .int 0, .ref q5, .ref q6, .null, .null, .int 0, .null, .int 0, .null, .null]))] ++ (B6 ++ [(q7, .inl (cI, 6, .inl (fun _ => 0)))])) := by rw [← List.append_assoc]; exact hD
  obtain ⟨B7, hB7⟩ : ∃ z : va_W, z = B6 ++ [(q7, .inl (cI, 6, .inl (fun _ => 0)))] := ⟨_, rfl⟩
  rewrite [← hB7] at hP hD
  refine W.widen (k := 7) (n := 50) (Nat.le_of_ble_eq_true rfl) (Nat.le_of_ble_eq_true rfl) ?_
  refine va_putF (D := D) (ci := 9) (v := .ref q7) (ty := tyX9 8) (C := RX9) (T := TX9) (N := 15) hx hb hts x_in9 tyX9 tyX9_ok nmX9 hown hK hP hD hS 0 rfl rfl 8 (by decide) (hts _ xl_X9_38) (fun _ h9 => h9) rfl hin rfl (tyX9_ok 8 (by decide)) rfl rfl (Nat.le_of_ble_eq_true rfl) dX9_init_67 (fun H locs hP hD hS => ?_)
  have hP : va_P D vwCl ([(h0, .inr (9, [.int 0, .ref q1, .ref q2, .ref q3, .ref q4, .int 0, .ref q5, .ref q6, .ref q7, .null, .int 0, .null, .int 0, .null, .null]))] ++ B7) H := hP
  have hD : va_D A ([(h0, .inr (9, [.int 0, .ref q1, .ref q2, .ref q3, .ref q4, .int 0, .ref q5, .ref q6, .ref q7, .null, .int 0, .null, .int 0, .null, .null]))] ++ B7) := hD
  refine lv_aload_n hx hb dX9_init_70 rfl (lv_at hl 0 rfl) ?_
  refine lv_bipush (v := 6) hx hb dX9_init_71 (by decide) ?_
  refine c_newa (atype := .int) (a0 := (6, .inl (fun _ => 0))) hx hb (hts _ c_ac_int) rfl (fun _ h => by cases h) hK (t0 := 0) rfl hP hD hS hA (fun _ => rfl) (by decide) (by decide) (Nat.le_of_ble_eq_true rfl) (Nat.le_of_ble_eq_true rfl) (Nat.le_of_ble_eq_true rfl) dX9_init_73 (fun q8 H hP hD hS => ?_)
  have hP : va_P D vwCl ([(h0, .inr (9, [.int 0, .ref q1, .ref q2, .ref q3, .ref q4, .int 0, .ref q5, .ref q6, .ref q7, .null, .int 0, .null, .int 0, .null, .null]))] ++ (B7 ++ [(q8, .inl (cI, 6, .inl (fun _ => 0)))])) H := by rw [← List.append_assoc]; exact hP
  have hD : va_D A ([(h0, .inr (9, [.int 0, .ref q1, .ref q2, .ref q3, .ref q4, .int 0, .ref q5, .ref q6, .ref q7, .null, .int 0, .null, .int 0, .null, .null]))] ++ (B7 ++ [(q8, .inl (cI, 6, .inl (fun _ => 0)))])) := by rw [← List.append_assoc]; exact hD
  obtain ⟨B8, hB8⟩ : ∃ z : va_W, z = B7 ++ [(q8, .inl (cI, 6, .inl (fun _ => 0)))] := ⟨_, rfl⟩
  rewrite [← hB8] at hP hD
  refine W.widen (k := 8) (n := 56) (Nat.le_of_ble_eq_true rfl) (Nat.le_of_ble_eq_true rfl) ?_
  refine va_putF (D := D) (ci := 9) (v := .ref q8) (ty := tyX9 9) (C := RX9) (T := TX9) (N := 15) hx hb hts x_in9 tyX9 tyX9_ok nmX9 hown hK hP hD hS 0 rfl rfl 9 (by decide) (hts _ xl_X9_41) (fun _ h9 => h9) rfl hin rfl (tyX9_ok 9 (by decide)) rfl rfl (Nat.le_of_ble_eq_true rfl) dX9_init_75 (fun H locs hP hD hS => ?_)
  have hP : va_P D vwCl ([(h0, .inr (9, [.int 0, .ref q1, .ref q2, .ref q3, .ref q4, .int 0, .ref q5, .ref q6, .ref q7, .ref q8, .int 0, .null, .int 0, .null, .null]))] ++ B8) H := hP
  have hD : va_D A ([(h0, .inr (9, [.int 0, .ref q1, .ref q2, .ref q3, .ref q4, .int 0, .ref q5, .ref q6, .ref q7, .ref q8, .int 0, .null, .int 0, .null, .null]))] ++ B8) := hD
  refine lv_aload_n hx hb dX9_init_78 rfl (lv_at hl 0 rfl) ?_
  refine lv_iconst (v := 0) hx hb dX9_init_79 (by decide) ?_
  refine va_put (D := D) (ci := 9) (v := .int 0) (ty := tyX9 10) (C := RX9) (T := TX9) (N := 15) hx hb hts x_in9 tyX9 tyX9_ok nmX9 hown hK hP hD hS 0 rfl rfl 10 (by decide) (hts _ xl_X9_44) (fun _ h9 => h9) rfl (tyX9_ok 10 (by decide)) rfl rfl (Nat.le_of_ble_eq_true rfl) dX9_init_80 (fun H locs hP hD hS => ?_)
  have hP : va_P D vwCl ([(h0, .inr (9, [.int 0, .ref q1, .ref q2, .ref q3, .ref q4, .int 0, .ref q5, .ref q6, .ref q7, .ref q8, .int 0, .null, .int 0, .null, .null]))] ++ B8) H := hP
  have hD : va_D A ([(h0, .inr (9, [.int 0, .ref q1, .ref q2, .ref q3, .ref q4, .int 0, .ref q5, .ref q6, .ref q7, .ref q8, .int 0, .null, .int 0, .null, .null]))] ++ B8) := hD
  refine lv_aload_n hx hb dX9_init_83 rfl (lv_at hl 0 rfl) ?_
  refine lv_bipush (v := 8) hx hb dX9_init_84 (by decide) ?_
  refine c_newa (atype := .int) (a0 := (8, .inl (fun _ => 0))) hx hb (hts _ c_ac_int) rfl (fun _ h => by cases h) hK (t0 := 0) rfl hP hD hS hA (fun _ => rfl) (by decide) (by decide) (Nat.le_of_ble_eq_true rfl) (Nat.le_of_ble_eq_true rfl) (Nat.le_of_ble_eq_true rfl) dX9_init_86 (fun q9 H hP hD hS => ?_)
  have hP : va_P D vwCl ([(h0, .inr (9, [.int 0, .ref q1, .ref q2, .ref q3, .ref q4, .int 0, .ref q5, .ref q6, .ref q7, .ref q8, .int 0, .null, .int 0, .null, .null]))] ++ (B8 ++ [(q9, .inl (cI, 8, .inl (fun _ => 0)))])) H := by rw [← List.append_assoc]; exact hP
  have hD : va_D A ([(h0, .inr (9, [.int 0, .ref q1, .ref q2, .ref q3, .ref q4, .int 0, .ref q5, .ref q6, .ref q7, .ref q8, .int 0, .null, .int 0, .null, .null]))] ++ (B8 ++ [(q9, .inl (cI, 8, .inl (fun _ => 0)))])) := by rw [← List.append_assoc]; exact hD
  obtain ⟨B9, hB9⟩ : ∃ z : va_W, z = B8 ++ [(q9, .inl (cI, 8, .inl (fun _ => 0)))] := ⟨_, rfl⟩
  rewrite [← hB9] at hP hD
  refine W.widen (k := 9) (n := 64) (Nat.le_of_ble_eq_true rfl) (Nat.le_of_ble_eq_true rfl) ?_
  refine va_putF (D := D) (ci := 9) (v := .ref q9) (ty := tyX9 11) (C := RX9) (T := TX9) (N := 15) hx hb hts x_in9 tyX9 tyX9_ok nmX9 hown hK hP hD hS 0 rfl rfl 11 (by decide) (hts _ xl_X9_47) (fun _ h9 => h9) rfl hin rfl (tyX9_ok 11 (by decide)) rfl rfl (Nat.le_of_ble_eq_true rfl) dX9_init_88 (fun H locs hP hD hS => ?_)
  have hP : va_P D vwCl ([(h0, .inr (9, [.int 0, .ref q1, .ref q2, .ref q3, .ref q4, .int 0, .ref q5, .ref q6, .ref q7, .ref q8, .int 0, .ref q9, .int 0, .null, .null]))] ++ B9) H := hP
  have hD : va_D A ([(h0, .inr (9, [.int 0, .ref q1, .ref q2, .ref q3, .ref q4, .int 0, .ref q5, .ref q6, .ref q7, .ref q8, .int 0, .ref q9, .int 0, .null, .null]))] ++ B9) := hD
  refine lv_aload_n hx hb dX9_init_91 rfl (lv_at hl 0 rfl) ?_
  refine lv_iconst (v := 0) hx hb dX9_init_92 (by decide) ?_
  refine va_put (D := D) (ci := 9) (v := .int 0) (ty := tyX9 12) (C := RX9) (T := TX9) (N := 15) hx hb hts x_in9 tyX9 tyX9_ok nmX9 hown hK hP hD hS 0 rfl rfl 12 (by decide) (hts _ xl_X9_50) (fun _ h9 => h9) rfl (tyX9_ok 12 (by decide)) rfl rfl (Nat.le_of_ble_eq_true rfl) dX9_init_93 (fun H locs hP hD hS => ?_)
  have hP : va_P D vwCl ([(h0, .inr (9, [.int 0, .ref q1, .ref q2, .ref q3, .ref q4, .int 0, .ref q5, .ref q6, .ref q7, .ref q8, .int 0, .ref q9, .int 0, .null, .null]))] ++ B9) H := hP
  have hD : va_D A ([(h0, .inr (9, [.int 0, .ref q1, .ref q2, .ref q3, .ref q4, .int 0, .ref q5, .ref q6, .ref q7, .ref q8, .int 0, .ref q9, .int 0, .null, .null]))] ++ B9) := hD
  refine lv_aload_n hx hb dX9_init_96 rfl (lv_at hl 0 rfl) ?_
  refine va_new (ci := 4) (fs := [.null, .null, .int 0, .int 0]) (C := RX4) (T := TX4) (N := 4) hx hb hts x_in4 tyX4 tyX4_ok hown (hts _ c_cl9_53) (hts _ c_is4.1) (hts _ c_is4.2) hK hP hD hS hA rfl c_df4 (Nat.le_of_ble_eq_true rfl) (Nat.le_of_ble_eq_true rfl) dX9_init_97 (fun q10 H hP hD hS => ?_)
  refine W.widen (k := 10) (n := 68) (Nat.le_of_ble_eq_true rfl) (Nat.le_of_ble_eq_true rfl) ?_
  refine lv_dup hx hb dX9_init_100 rfl ?_
  refine lv_iconst (v := 0) hx hb dX9_init_101 (by decide) ?_
  have hPc : va_P D vwCl [(q10, .inr (4, [.null, .null, .int 0, .int 0]))] H := c_right hP
  have hDc : va_D A [(q10, .inr (4, [.null, .null, .int 0, .int 0]))] := c_rightD hD
  have hFc := c_free (wc := [(q10, .inr (4, [.null, .null, .int 0, .int 0]))]) hD hS hA
  refine va_callv (va_runI (As := [.int 0]) (rest := [.ref q10, .ref h0]) ⟨hx, hb, hml, hown, hts⟩ (kc_4_82 l D cI cB cZ cQ q10 H.size) ⟨callB_of 1 hts (gT_in (fun w h => (List.mem_cons.mp h).elim (fun e => e ▸ c_cw4.1) id)) rfl rfl rfl (hts _ c_is4.2) (hts _ c_lk9_55) c_cw4.2.2 ⟨(Nat.le_of_ble_eq_true rfl), (Nat.le_of_ble_eq_true rfl)⟩, rfl, hts _ c_cw4.2.1⟩ ⟨fun a U g mk q => by obtain ⟨q0, q1, qP, qK, qD, qN, qO⟩ := q; exact ⟨q0, q1, qP, va_K.moved (u := U) (U := U.calling g mk a) (Vm.Alike.refl U.vm) qK, qD, xNest_warm (State.WarmedH.refl U) qN, aoa_moved (u := U) (U := U.calling g mk a) (Vm.Alike.refl U.vm) qO⟩, fun U hU hW => ⟨rfl, by rw [hU], by rw [hU]; exact hPc, va_K.moved hW.alike hK, hDc.weaken (fun _ _ _ _ => trivial), xNest_warm hW hN, aoa_moved hW.alike hAO⟩⟩ rfl rfl hl.1 rfl (lv_room (Nat.le_of_ble_eq_true rfl)) dX9_init_102 ⟨(Nat.le_of_ble_eq_true rfl), (Nat.le_of_ble_eq_true rfl)⟩) hS (fun q _ h => hFc q h) hFc (fun u10 t H1 locs ht hvm hw hB hz1 hk1 hS => ?_)
  obtain ⟨hu10, hP1, hK1, hD1⟩ := hB
  rewrite [ht] at hP1
  obtain ⟨hP, hD⟩ := c_join (wr := [(h0, .inr (9, [.int 0, .ref q1, .ref q2, .ref q3, .ref q4, .int 0, .ref q5, .ref q6, .ref q7, .ref q8, .int 0, .ref q9, .int 0, .null, .null]))] ++ B9) (w1 := xb cI cB cZ cQ u10 82 3) hP hD hk1 hFc hP1 hD1
  generalize H1 = H at hP hS ⊢
  have hP : va_P D vwCl ([(h0, .inr (9, [.int 0, .ref q1, .ref q2, .ref q3, .ref q4, .int 0, .ref q5, .ref q6, .ref q7, .ref q8, .int 0, .ref q9, .int 0, .null, .null]))] ++ (B9 ++ xb cI cB cZ cQ u10 82 3)) H := by rw [← List.append_assoc]; exact hP
  have hD : va_D A ([(h0, .inr (9, [.int 0, .ref q1, .ref q2, .ref q3, .ref q4, .int 0, .ref q5, .ref q6, .ref q7, .ref q8, .int 0, .ref q9, .int 0, .null, .null]))] ++ (B9 ++ xb cI cB cZ cQ u10 82 3)) := by rw [← List.append_assoc]; exact hD
  obtain ⟨B10, hB10⟩ : ∃ z : va_W, z = B9 ++ xb cI cB cZ cQ u10 82 3 := ⟨_, rfl⟩
  rewrite [← hB10] at hP hD
  have hz10 : Value.ref q10 = .ref (u10 82) := by rw [hu10]
  refine W.widen (k := 12) (n := 799) (Nat.le_of_ble_eq_true rfl) (Nat.le_of_ble_eq_true rfl) ?_
  rw [hz10]
  refine va_putF (D := D) (ci := 9) (v := .ref (u10 82)) (ty := tyX9 13) (C := RX9) (T := TX9) (N := 15) hx hb hts x_in9 tyX9 tyX9_ok nmX9 hown hK hP hD hS 0 rfl rfl 13 (by decide) (hts _ xl_X9_58) (fun _ h9 => h9) rfl hin rfl (tyX9_ok 13 (by decide)) rfl rfl (Nat.le_of_ble_eq_true rfl) dX9_init_105 (fun H locs hP hD hS => ?_)
  have hP : va_P D vwCl ([(h0, .inr (9, [.int 0, .ref q1, .ref q2, .ref q3, .ref q4, .int 0, .ref q5, .ref q6, .ref q7, .ref q8, .int 0, .ref q9, .int 0, .ref (u10 82), .null]))] ++ B10) H := hP
  have hD : va_D A ([(h0, .inr (9, [.int 0, .ref q1, .ref q2, .ref q3, .ref q4, .int 0, .ref q5, .ref q6, .ref q7, .ref q8, .int 0, .ref q9, .int 0, .ref (u10 82), .null]))] ++ B10) := hD
  refine lv_aload_n hx hb dX9_init_108 rfl (lv_at hl 0 rfl) ?_
  refine va_new (ci := 4) (fs := [.null, .null, .int 0, .int 0]) (C := RX4) (T := TX4) (N := 4) hx hb hts x_in4 tyX4 tyX4_ok hown (hts _ c_cl9_53) (hts _ c_is4.1) (hts _ c_is4.2) hK hP hD hS hA rfl c_df4 (Nat.le_of_ble_eq_true rfl) (Nat.le_of_ble_eq_true rfl) dX9_init_109 (fun q11 H hP hD hS => ?_)
  refine W.widen (k := 13) (n := 803) (Nat.le_of_ble_eq_true rfl) (Nat.le_of_ble_eq_true rfl) ?_
  refine lv_dup hx hb dX9_init_112 rfl ?_
  refine lv_iconst (v := 1) hx hb dX9_init_113 (by decide) ?_
  have hPc : va_P D vwCl [(q11, .inr (4, [.null, .null, .int 0, .int 0]))] H := c_right hP
  have hDc : va_D A [(q11, .inr (4, [.null, .null, .int 0, .int 0]))] := c_rightD hD
  have hFc := c_free (wc := [(q11, .inr (4, [.null, .null, .int 0, .int 0]))]) hD hS hA
  refine va_callv (va_runI (As := [.int 1]) (rest := [.ref q11, .ref h0]) ⟨hx, hb, hml, hown, hts⟩ (kc_4_85 l D cI cB cZ cQ q11 H.size) ⟨callB_of 1 hts (gT_in (fun w h => (List.mem_cons.mp h).elim (fun e => e ▸ c_cw4.1) id)) rfl rfl rfl (hts _ c_is4.2) (hts _ c_lk9_55) c_cw4.2.2 ⟨(Nat.le_of_ble_eq_true rfl), (Nat.le_of_ble_eq_true rfl)⟩, rfl, hts _ c_cw4.2.1⟩ ⟨fun a U g mk q => by obtain ⟨q0, q1, qP, qK, qD, qN, qO⟩ := q; exact ⟨q0, q1, qP, va_K.moved (u := U) (U := U.calling g mk a) (Vm.Alike.refl U.vm) qK, qD, xNest_warm (State.WarmedH.refl U) qN, aoa_moved (u := U) (U := U.calling g mk a) (Vm.Alike.refl U.vm) qO⟩, fun U hU hW => ⟨rfl, by rw [hU], by rw [hU]; exact hPc, va_K.moved hW.alike hK, hDc.weaken (fun _ _ _ _ => trivial), xNest_warm hW hN, aoa_moved hW.alike hAO⟩⟩ rfl rfl hl.1 rfl (lv_room (Nat.le_of_ble_eq_true rfl)) dX9_init_114 ⟨(Nat.le_of_ble_eq_true rfl), (Nat.le_of_ble_eq_true rfl)⟩) hS (fun q _ h => hFc q h) hFc (fun u11 t H1 locs ht hvm hw hB hz1 hk1 hS => ?_)
  obtain ⟨hu11, hP1, hK1, hD1⟩ := hB
  rewrite [ht] at hP1
  obtain ⟨hP, hD⟩ := c_join (wr := [(h0, .inr (9, [.int 0, .ref q1, .ref q2, .ref q3, .ref q4, .int 0, .ref q5, .ref q6, .ref q7, .ref q8, .int 0, .ref q9, .int 0, .ref (u10 82), .null]))] ++ B10) (w1 := xb cI cB cZ cQ u11 85 3) hP hD hk1 hFc hP1 hD1
  generalize H1 = H at hP hS ⊢
  have hP : va_P D vwCl ([(h0, .inr (9, [.int 0, .ref q1, .ref q2, .ref q3, .ref q4, .int 0, .ref q5, .ref q6, .ref q7, .ref q8, .int 0, .ref q9, .int 0, .ref (u10 82), .null]))] ++ (B10 ++ xb cI cB cZ cQ u11 85 3)) H := by rw [← List.append_assoc]; exact hP
  have hD : va_D A ([(h0, .inr (9, [.int 0, .ref q1, .ref q2, .ref q3, .ref q4, .int 0, .ref q5, .ref q6, .ref q7, .ref q8, .int 0, .ref q9, .int 0, .ref (u10 82), .null]))] ++ (B10 ++ xb cI cB cZ cQ u11 85 3)) := by rw [← List.append_assoc]; exact hD
  obtain ⟨B11, hB11⟩ : ∃ z : va_W, z = B10 ++ xb cI cB cZ cQ u11 85 3 := ⟨_, rfl⟩
  rewrite [← hB11] at hP hD
  have hz11 : Value.ref q11 = .ref (u11 85) := by rw [hu11]
  refine W.widen (k := 15) (n := 1534) (Nat.le_of_ble_eq_true rfl) (Nat.le_of_ble_eq_true rfl) ?_
  rw [hz11]
  refine va_putF (D := D) (ci := 9) (v := .ref (u11 85)) (ty := tyX9 14) (C := RX9) (T := TX9) (N := 15) hx hb hts x_in9 tyX9 tyX9_ok nmX9 hown hK hP hD hS 0 rfl rfl 14 (by decide) (hts _ xl_X9_62) (fun _ h9 => h9) rfl hin rfl (tyX9_ok 14 (by decide)) rfl rfl (Nat.le_of_ble_eq_true rfl) dX9_init_117 (fun H locs hP hD hS => ?_)
  have hP : va_P D vwCl ([(h0, .inr (9, [.int 0, .ref q1, .ref q2, .ref q3, .ref q4, .int 0, .ref q5, .ref q6, .ref q7, .ref q8, .int 0, .ref q9, .int 0, .ref (u10 82), .ref (u11 85)]))] ++ B11) H := hP
  have hD : va_D A ([(h0, .inr (9, [.int 0, .ref q1, .ref q2, .ref q3, .ref q4, .int 0, .ref q5, .ref q6, .ref q7, .ref q8, .int 0, .ref q9, .int 0, .ref (u10 82), .ref (u11 85)]))] ++ B11) := hD
  rewrite [hB11, hB10, hB9, hB8, hB7, hB6, hB5, hB4, hB3, hB2, hB1, hB0] at hP hD
  have hP9 : va_P D vwCl (xb cI cB cZ cQ (xj (xj (xj (xj (xj (xj (xj (xj (xj (xj (xj (fun _ => h0) 73 (fun _ => q1)) 74 (fun _ => q2)) 75 (fun _ => q3)) 76 (fun _ => q4)) 77 (fun _ => q5)) 78 (fun _ => q6)) 79 (fun _ => q7)) 80 (fun _ => q8)) 81 (fun _ => q9)) 82 u10) 85 u11) 72 16) H := hP
  have hD9 : va_D A (xb cI cB cZ cQ (xj (xj (xj (xj (xj (xj (xj (xj (xj (xj (xj (fun _ => h0) 73 (fun _ => q1)) 74 (fun _ => q2)) 75 (fun _ => q3)) 76 (fun _ => q4)) 77 (fun _ => q5)) 78 (fun _ => q6)) 79 (fun _ => q7)) 80 (fun _ => q8)) 81 (fun _ => q9)) 82 u10) 85 u11) 72 16) := hD
  exact W.vret hx hb hr (fun t ht hW => ⟨⟨(xj (xj (xj (xj (xj (xj (xj (xj (xj (xj (xj (fun _ => h0) 73 (fun _ => q1)) 74 (fun _ => q2)) 75 (fun _ => q3)) 76 (fun _ => q4)) 77 (fun _ => q5)) 78 (fun _ => q6)) 79 (fun _ => q7)) 80 (fun _ => q8)) 81 (fun _ => q9)) 82 u10) 85 u11), rfl, trivial, rfl, by rw [ht]; exact hP9, va_K.moved hW.alike hK, hD9⟩, hS.F ht⟩) hS.2.2 dX9_init_120 hlocks
end

/-! part 19.d0agree -/
section
/-! a block by other addresses that agree on it (the two blocks with rows of rows) -/
theorem xb_52 {cI cB cZ cQ : ClassId} {u G : Nat → Nat} (h : ∀ i, 52 ≤ i → i < 62 → G i = u i) : xb cI cB cZ cQ u 52 10 = xb cI cB cZ cQ G 52 10 := by
  have e : (fun i => if i < 7 then some (u (53 + 1 + i)) else none) = (fun i => if i < 7 then some (G (53 + 1 + i)) else none) := by
    funext i
    by_cases hi : i < 7
    · rw [if_pos hi, if_pos hi, h _ (by omega) (by omega)]
    · rw [if_neg hi, if_neg hi]
  show ([(u 52, Sum.inr (6, [Value.ref (u 53), Value.ref (u 61), Value.int 0, Value.int 0])), (u 53, Sum.inl (cQ, 7, .inr (.inr (.inr (.inr (fun i => if i < 7 then some (u (53 + 1 + i)) else none)))))), (u 54, .inl (cI, 256, .inl (fun _ => 0))), (u 55, .inl (cI, 256, .inl (fun _ => 0))), (u 56, .inl (cI, 256, .inl (fun _ => 0))), (u 57, .inl (cI, 256, .inl (fun _ => 0))), (u 58, .inl (cI, 256, .inl (fun _ => 0))), (u 59, .inl (cI, 256, .inl (fun _ => 0))), (u 60, .inl (cI, 256, .inl (fun _ => 0))), (u 61, .inl (cI, 6, .inl (fun _ => 0)))] : va_W) = _
  rw [e, ← h 52 (by omega) (by omega), ← h 53 (by omega) (by omega), ← h 54 (by omega) (by omega), ← h 55 (by omega) (by omega), ← h 56 (by omega) (by omega), ← h 57 (by omega) (by omega), ← h 58 (by omega) (by omega), ← h 59 (by omega) (by omega), ← h 60 (by omega) (by omega), ← h 61 (by omega) (by omega)]
  rfl
theorem xb_62 {cI cB cZ cQ : ClassId} {u G : Nat → Nat} (h : ∀ i, 62 ≤ i → i < 72 → G i = u i) : xb cI cB cZ cQ u 62 10 = xb cI cB cZ cQ G 62 10 := by
  have e : (fun i => if i < 6 then some (u (63 + 1 + i)) else none) = (fun i => if i < 6 then some (G (63 + 1 + i)) else none) := by
    funext i
    by_cases hi : i < 6
    · rw [if_pos hi, if_pos hi, h _ (by omega) (by omega)]
    · rw [if_neg hi, if_neg hi]
  show ([(u 62, Sum.inr (2, [Value.ref (u 63), Value.ref (u 70), Value.ref (u 71), Value.int 0, Value.int (-1), Value.int 1])), (u 63, Sum.inl (cQ, 6, .inr (.inr (.inr (.inr (fun i => if i < 6 then some (u (63 + 1 + i)) else none)))))), (u 64, .inl (cI, 21, .inl (fun _ => 0))), (u 65, .inl (cI, 21, .inl (fun _ => 0))), (u 66, .inl (cI, 21, .inl (fun _ => 0))), (u 67, .inl (cI, 21, .inl (fun _ => 0))), (u 68, .inl (cI, 21, .inl (fun _ => 0))), (u 69, .inl (cI, 21, .inl (fun _ => 0))), (u 70, .inl (cI, 21, .inl (fun _ => 0))), (u 71, .inl (cI, 21, .inl (fun _ => 0)))] : va_W) = _
  rw [e, ← h 62 (by omega) (by omega), ← h 63 (by omega) (by omega), ← h 64 (by omega) (by omega), ← h 65 (by omega) (by omega), ← h 66 (by omega) (by omega), ← h 67 (by omega) (by omega), ← h 68 (by omega) (by omega), ← h 69 (by omega) (by omega), ← h 70 (by omega) (by omega), ← h 71 (by omega) (by omega)]
  rfl
end
