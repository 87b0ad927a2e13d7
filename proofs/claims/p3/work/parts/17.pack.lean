/-! part 13.x01 -/
section
/-! the class's methods as maps of states, and their walks (printed by wip/whole/mkx.py) -/
section
variable {p : Program} {l : Launch} {e : Env} {s : State} {m : MethodId} {args : Array Value} {below : List Frame} {meth : Method} {c : Code} {D : va_G} {g : Nat → Nat} {cI cB cZ cQ : ClassId} {Am : (Nat → Prop) → State → Heap → Prop}
-- X1.refuse
noncomputable def fX1_refuse_b23 (N : Nat) (S : gS) : Option (Int32 × gS) := some ((-1), S)
theorem bX1_refuse_23 {N : Nat} {S : gS} {H : Heap} {locs : List Loc} {ls : Array Slot} {o : Int32 × gS} (C : gC p s m args meth c cX1_refuse 2 RX1 ((some .int)) D (xtys cI cB cZ cQ) xord g Am) (O : xO g cI cB cZ cQ Am) (X : gX D (xcell g cI cB cZ cQ) xord g S s H locs) (hl : lv_has ls 2 []) (hF : fX1_refuse_b23 N S = some o) : W p l e (rmd 0) s m args below meth c H locs 0 0 (gE below args s D (xtys cI cB cZ cQ) (xcell g cI cB cZ cQ) xord g (some (.int o.1)) o.2) (F0 m 23 ls []) := by
  unfold fX1_refuse_b23 at hF
  refine lv_iconst (v := (-1)) C.1.1 C.1.2.1 dX1_refuse_23 (by decide) ?_
  cases hF
  exact g_iret C X dX1_refuse_24
noncomputable def fX1_refuse_b13 (N : Nat) (k0 : Nat) (x1 : Int32) (S : gS) : Option (Int32 × gS) := chk (inb x1 3) (chk (inb x1 3) (lt (sU S (k0 + 12) (Int32.toNatClampNeg x1) (((S (k0 + 12) (Int32.toNatClampNeg x1)) + 1 : Int32))) fun S1 => (fX1_refuse_b23 N S1)))
theorem bX1_refuse_13 {N : Nat} {k0 : Nat} {x1 : Int32} {S : gS} {H : Heap} {locs : List Loc} {ls : Array Slot} {o : Int32 × gS} (C : gC p s m args meth c cX1_refuse 2 RX1 ((some .int)) D (xtys cI cB cZ cQ) xord g Am) (O : xO g cI cB cZ cQ Am) (hk_k0 : xk k0 = 1) (X : gX D (xcell g cI cB cZ cQ) xord g S s H locs) (hl : lv_has ls 2 [(0, .ref (g k0)), (1, .int x1)]) (hF : fX1_refuse_b13 N k0 x1 S = some o) : W p l e (rmd 0) s m args below meth c H locs 0 0 (gE below args s D (xtys cI cB cZ cQ) (xcell g cI cB cZ cQ) xord g (some (.int o.1)) o.2) (F0 m 13 ls []) := by
  unfold fX1_refuse_b13 at hF
  refine lv_aload_n C.1.1 C.1.2.1 dX1_refuse_13 rfl (lv_at hl 0 rfl) ?_
  refine xg_X1_32 C O X (k := k0) hk_k0 (j := k0 + 12) rfl dX1_refuse_14 ?_
  refine lv_iload_n C.1.1 C.1.2.1 dX1_refuse_17 rfl (lv_at hl 1 rfl) ?_
  refine lv_dup2_11 C.1.1 C.1.2.1 dX1_refuse_18 rfl rfl ?_
  obtain ⟨h_1, hF⟩ := chk_some hF
  refine x_rI C X (k := k0 + 12) (xs_1_3 hk_k0).1 (n := 3) (xs_1_3 hk_k0).2  (inb_vp h_1) rfl dX1_refuse_19 ?_
  refine lv_iconst (v := 1) C.1.1 C.1.2.1 dX1_refuse_20 (by decide) ?_
  refine lv_iadd C.1.1 C.1.2.1 dX1_refuse_21 ?_
  obtain ⟨h_2, hF⟩ := chk_some hF
  obtain ⟨S1, eS1, hF⟩ := lt_some hF
  refine x_wI C O X (k := k0 + 12) (xs_1_3 hk_k0).1 (n := 3) (xs_1_3 hk_k0).2  (inb_vp h_2) rfl eS1 dX1_refuse_22 (fun H locs X => ?_)
  exact bX1_refuse_23 C O X (lv_sub hl [] rfl) hF
noncomputable def fX1_refuse_b4 (N : Nat) (k0 : Nat) (x1 : Int32) (S : gS) : Option (Int32 × gS) := if 3 ≤ x1 then fX1_refuse_b23 N S else fX1_refuse_b13 N k0 x1 S
theorem bX1_refuse_4 {N : Nat} {k0 : Nat} {x1 : Int32} {S : gS} {H : Heap} {locs : List Loc} {ls : Array Slot} {o : Int32 × gS} (C : gC p s m args meth c cX1_refuse 2 RX1 ((some .int)) D (xtys cI cB cZ cQ) xord g Am) (O : xO g cI cB cZ cQ Am) (hk_k0 : xk k0 = 1) (X : gX D (xcell g cI cB cZ cQ) xord g S s H locs) (hl : lv_has ls 2 [(0, .ref (g k0)), (1, .int x1)]) (hF : fX1_refuse_b4 N k0 x1 S = some o) : W p l e (rmd 0) s m args below meth c H locs 0 0 (gE below args s D (xtys cI cB cZ cQ) (xcell g cI cB cZ cQ) xord g (some (.int o.1)) o.2) (F0 m 4 ls []) := by
  unfold fX1_refuse_b4 at hF
  refine lv_iload_n C.1.1 C.1.2.1 dX1_refuse_4 rfl (lv_at hl 1 rfl) ?_
  refine lv_aload_n C.1.1 C.1.2.1 dX1_refuse_5 rfl (lv_at hl 0 rfl) ?_
  refine xg_X1_32 C O X (k := k0) hk_k0 (j := k0 + 12) rfl dX1_refuse_6 ?_
  refine x_lI C X (k := k0 + 12) (xs_1_3 hk_k0).1 (n := 3) (xs_1_3 hk_k0).2 (x := 3) (by decide) dX1_refuse_9 ?_
  refine lv_icmp_ge (tgt := 23) C.1.1 C.1.2.1 dX1_refuse_10 (by decide) (fun h_z => ?_) (fun h_z => ?_)
  · rw [if_pos h_z] at hF
    exact bX1_refuse_23 C O X (lv_sub hl [] rfl) hF
  · rw [if_neg h_z] at hF
    exact bX1_refuse_13 C O (hk_k0 : xk k0 = 1) X (lv_sub hl [0, 1] rfl) hF
noncomputable def fX1_refuse_b0 (N : Nat) (k0 : Nat) (x1 : Int32) (S : gS) : Option (Int32 × gS) := if x1 < 0 then fX1_refuse_b23 N S else fX1_refuse_b4 N k0 x1 S
theorem bX1_refuse_0 {N : Nat} {k0 : Nat} {x1 : Int32} {S : gS} {H : Heap} {locs : List Loc} {ls : Array Slot} {o : Int32 × gS} (C : gC p s m args meth c cX1_refuse 2 RX1 ((some .int)) D (xtys cI cB cZ cQ) xord g Am) (O : xO g cI cB cZ cQ Am) (hk_k0 : xk k0 = 1) (X : gX D (xcell g cI cB cZ cQ) xord g S s H locs) (hl : lv_has ls 2 [(0, .ref (g k0)), (1, .int x1)]) (hF : fX1_refuse_b0 N k0 x1 S = some o) : W p l e (rmd 0) s m args below meth c H locs 0 0 (gE below args s D (xtys cI cB cZ cQ) (xcell g cI cB cZ cQ) xord g (some (.int o.1)) o.2) (F0 m 0 ls []) := by
  unfold fX1_refuse_b0 at hF
  refine lv_iload_n C.1.1 C.1.2.1 dX1_refuse_0 rfl (lv_at hl 1 rfl) ?_
  refine lv_if_lt (tgt := 23) C.1.1 C.1.2.1 dX1_refuse_1 (by decide) (fun h_z => ?_) (fun h_z => ?_)
  · rw [if_pos h_z] at hF
    exact bX1_refuse_23 C O X (lv_sub hl [] rfl) hF
  · rw [if_neg h_z] at hF
    exact bX1_refuse_4 C O (hk_k0 : xk k0 = 1) X (lv_sub hl [0, 1] rfl) hF
noncomputable def fX1_refuse (N : Nat) (k0 : Nat) (x1 : Int32) (S : gS) : Option (Int32 × gS) := fX1_refuse_b0 N k0 x1 S
theorem kX1_refuse {l : Launch} {D : va_G} {g : Nat → Nat} {cI cB cZ cQ : ClassId} {Am : (Nat → Prop) → State → Heap → Prop} (O : xO g cI cB cZ cQ Am) (P : gAm Am) (N : Nat) (k0 : Nat) (x1 : Int32) (hk_k0 : xk k0 = 1) (S : gS) (o : Int32 × gS) (hF : fX1_refuse N k0 x1 S = some o) : gM l yX1_refuse cX1_refuse 2 ((some .int)) 0 D (xtys cI cB cZ cQ) (xcell g cI cB cZ cQ) xord g Am [.ref (g k0), .int x1] S (some (.int o.1)) o.2 :=
  gM_of O.1 P (by decide) (Nat.le_of_ble_eq_true rfl) (fun p e s m args below meth c ls C X hl => bX1_refuse_0 C O hk_k0 X (lv_sub hl [0, 1] rfl) hF)
-- X2.markWorst
noncomputable def fX2_markWorst_b92 (N : Nat) (S : gS) : Option (Int32 × gS) := some (0, S)
theorem bX2_markWorst_92 {N : Nat} {S : gS} {H : Heap} {locs : List Loc} {ls : Array Slot} {o : Int32 × gS} (C : gC p s m args meth c cX2_markWorst 8 RX2 none D (xtys cI cB cZ cQ) xord g Am) (O : xO g cI cB cZ cQ Am) (X : gX D (xcell g cI cB cZ cQ) xord g S s H locs) (hl : lv_has ls 8 []) (hF : fX2_markWorst_b92 N S = some o) : W p l e (rmd 0) s m args below meth c H locs 0 0 (gE below args s D (xtys cI cB cZ cQ) (xcell g cI cB cZ cQ) xord g none o.2) (F0 m 92 ls []) := by
  unfold fX2_markWorst_b92 at hF
  cases hF
  exact g_vret C X dX2_markWorst_92
noncomputable def fX2_markWorst_b73 (N : Nat) (r2 : Nat → Int32 → Int32 → gS → Option (Int32 × gS)) (k1 : Nat) (x2 : Int32) (x3 : Int32) (x4 : Int32) (S : gS) : Option (Int32 × gS) := chk (inb x3 21) (chk (inb x3 21) (lt (sU S 71 (Int32.toNatClampNeg x3) (((S 71 (Int32.toNatClampNeg x3)) ||| (((1 : Int32) <<< (x4 &&& 31) : Int32)) : Int32))) fun S1 => (r2 k1 x2 ((x3 + 1 : Int32)) S1)))
theorem bX2_markWorst_73 {N : Nat} {r2 : Nat → Int32 → Int32 → gS → Option (Int32 × gS)} {k1 : Nat} {x2 : Int32} {x3 : Int32} {x4 : Int32} {S : gS} {H : Heap} {locs : List Loc} {ls : Array Slot} {o : Int32 × gS} (C : gC p s m args meth c cX2_markWorst 8 RX2 none D (xtys cI cB cZ cQ) xord g Am) (O : xO g cI cB cZ cQ Am) (K2 : ∀ (k1 : Nat) (x2 : Int32) (x3 : Int32) (hk_k1 : xk k1 = 9) (S : gS) (H : Heap) (locs : List Loc) (ls : Array Slot), gX D (xcell g cI cB cZ cQ) xord g S s H locs → lv_has ls 8 [(0, .ref (g 62)), (1, .ref (g k1)), (2, .int x2), (3, .int x3)] → r2 k1 x2 x3 S = some o → W p l e (rmd 0) s m args below meth c H locs 0 0 (gE below args s D (xtys cI cB cZ cQ) (xcell g cI cB cZ cQ) xord g none o.2) (F0 m 2 ls [])) (hk_k1 : xk k1 = 9) (X : gX D (xcell g cI cB cZ cQ) xord g S s H locs) (hl : lv_has ls 8 [(0, .ref (g 62)), (1, .ref (g k1)), (2, .int x2), (3, .int x3), (4, .int x4)]) (hF : fX2_markWorst_b73 N r2 k1 x2 x3 x4 S = some o) : W p l e (rmd 0) s m args below meth c H locs 0 0 (gE below args s D (xtys cI cB cZ cQ) (xcell g cI cB cZ cQ) xord g none o.2) (F0 m 73 ls []) := by
  unfold fX2_markWorst_b73 at hF
  refine lv_aload_n C.1.1 C.1.2.1 dX2_markWorst_73 rfl (lv_at hl 0 rfl) ?_
  refine xg_X2_20 C O X (k := 62) rfl (j := 71) rfl dX2_markWorst_74 ?_
  refine lv_iload_n C.1.1 C.1.2.1 dX2_markWorst_77 rfl (lv_at hl 3 rfl) ?_
  refine lv_dup2_11 C.1.1 C.1.2.1 dX2_markWorst_78 rfl rfl ?_
  obtain ⟨h_1, hF⟩ := chk_some hF
  refine x_rI C X (k := 71) rfl (n := 21) rfl  (inb_vp h_1) rfl dX2_markWorst_79 ?_
  refine lv_iconst (v := 1) C.1.1 C.1.2.1 dX2_markWorst_80 (by decide) ?_
  refine lv_iload C.1.1 C.1.2.1 dX2_markWorst_81 (lv_at hl 4 rfl) ?_
  refine lv_ishl C.1.1 C.1.2.1 dX2_markWorst_83 ?_
  refine lv_ior C.1.1 C.1.2.1 dX2_markWorst_84 ?_
  obtain ⟨h_2, hF⟩ := chk_some hF
  obtain ⟨S1, eS1, hF⟩ := lt_some hF
  refine x_wI C O X (k := 71) rfl (n := 21) rfl  (inb_vp h_2) rfl eS1 dX2_markWorst_85 (fun H locs X => ?_)
  refine lv_iinc (v := (x3 + 1 : Int32)) (lv' := [(3, .int ((x3 + 1 : Int32))), (0, .ref (g 62)), (1, .ref (g k1)), (2, .int x2), (4, .int x4)]) C.1.1 C.1.2.1 dX2_markWorst_86 hl (k := 3) rfl rfl (by decide) rfl (fun ls hl => ?_)
  refine lv_goto (tgt := 2) C.1.1 C.1.2.1 dX2_markWorst_89 (by decide) ?_
  exact K2 _ _ _ (hk_k1 : xk k1 = 9) _ _ _ _ X (lv_sub hl [1, 2, 3, 0] rfl) hF
noncomputable def fX2_markWorst_b67 (N : Nat) (r2 : Nat → Int32 → Int32 → gS → Option (Int32 × gS)) (r17 : Nat → Int32 → Int32 → Int32 → Int32 → Int32 → gS → Option (Int32 × gS)) (k1 : Nat) (x2 : Int32) (x3 : Int32) (x4 : Int32) (x5 : Int32) (x6 : Int32) (S : gS) : Option (Int32 × gS) := r17 k1 x2 x3 x4 x5 ((x6 + 1 : Int32)) S
theorem bX2_markWorst_67 {N : Nat} {r2 : Nat → Int32 → Int32 → gS → Option (Int32 × gS)} {r17 : Nat → Int32 → Int32 → Int32 → Int32 → Int32 → gS → Option (Int32 × gS)} {k1 : Nat} {x2 : Int32} {x3 : Int32} {x4 : Int32} {x5 : Int32} {x6 : Int32} {S : gS} {H : Heap} {locs : List Loc} {ls : Array Slot} {o : Int32 × gS} (C : gC p s m args meth c cX2_markWorst 8 RX2 none D (xtys cI cB cZ cQ) xord g Am) (O : xO g cI cB cZ cQ Am) (K2 : ∀ (k1 : Nat) (x2 : Int32) (x3 : Int32) (hk_k1 : xk k1 = 9) (S : gS) (H : Heap) (locs : List Loc) (ls : Array Slot), gX D (xcell g cI cB cZ cQ) xord g S s H locs → lv_has ls 8 [(0, .ref (g 62)), (1, .ref (g k1)), (2, .int x2), (3, .int x3)] → r2 k1 x2 x3 S = some o → W p l e (rmd 0) s m args below meth c H locs 0 0 (gE below args s D (xtys cI cB cZ cQ) (xcell g cI cB cZ cQ) xord g none o.2) (F0 m 2 ls [])) (K17 : ∀ (k1 : Nat) (x2 : Int32) (x3 : Int32) (x4 : Int32) (x5 : Int32) (x6 : Int32) (hk_k1 : xk k1 = 9) (S : gS) (H : Heap) (locs : List Loc) (ls : Array Slot), gX D (xcell g cI cB cZ cQ) xord g S s H locs → lv_has ls 8 [(0, .ref (g 62)), (1, .ref (g k1)), (2, .int x2), (3, .int x3), (4, .int x4), (5, .int x5), (6, .int x6)] → r17 k1 x2 x3 x4 x5 x6 S = some o → W p l e (rmd 0) s m args below meth c H locs 0 0 (gE below args s D (xtys cI cB cZ cQ) (xcell g cI cB cZ cQ) xord g none o.2) (F0 m 17 ls [])) (hk_k1 : xk k1 = 9) (X : gX D (xcell g cI cB cZ cQ) xord g S s H locs) (hl : lv_has ls 8 [(0, .ref (g 62)), (1, .ref (g k1)), (2, .int x2), (3, .int x3), (4, .int x4), (5, .int x5), (6, .int x6)]) (hF : fX2_markWorst_b67 N r2 r17 k1 x2 x3 x4 x5 x6 S = some o) : W p l e (rmd 0) s m args below meth c H locs 0 0 (gE below args s D (xtys cI cB cZ cQ) (xcell g cI cB cZ cQ) xord g none o.2) (F0 m 67 ls []) := by
  unfold fX2_markWorst_b67 at hF
  refine lv_iinc (v := (x6 + 1 : Int32)) (lv' := [(6, .int ((x6 + 1 : Int32))), (0, .ref (g 62)), (1, .ref (g k1)), (2, .int x2), (3, .int x3), (4, .int x4), (5, .int x5)]) C.1.1 C.1.2.1 dX2_markWorst_67 hl (k := 6) rfl rfl (by decide) rfl (fun ls hl => ?_)
  refine lv_goto (tgt := 17) C.1.1 C.1.2.1 dX2_markWorst_70 (by decide) ?_
  exact K17 _ _ _ _ _ _ (hk_k1 : xk k1 = 9) _ _ _ _ X (lv_sub hl [1, 2, 3, 4, 5, 6, 0] rfl) hF
noncomputable def fX2_markWorst_b59 (N : Nat) (r2 : Nat → Int32 → Int32 → gS → Option (Int32 × gS)) (r17 : Nat → Int32 → Int32 → Int32 → Int32 → Int32 → gS → Option (Int32 × gS)) (k1 : Nat) (x2 : Int32) (x3 : Int32) (x6 : Int32) (x7 : Int32) (S : gS) : Option (Int32 × gS) := fX2_markWorst_b67 N r2 r17 k1 x2 x3 x6 x7 x6 S
theorem bX2_markWorst_59 {N : Nat} {r2 : Nat → Int32 → Int32 → gS → Option (Int32 × gS)} {r17 : Nat → Int32 → Int32 → Int32 → Int32 → Int32 → gS → Option (Int32 × gS)} {k1 : Nat} {x2 : Int32} {x3 : Int32} {x6 : Int32} {x7 : Int32} {S : gS} {H : Heap} {locs : List Loc} {ls : Array Slot} {o : Int32 × gS} (C : gC p s m args meth c cX2_markWorst 8 RX2 none D (xtys cI cB cZ cQ) xord g Am) (O : xO g cI cB cZ cQ Am) (K2 : ∀ (k1 : Nat) (x2 : Int32) (x3 : Int32) (hk_k1 : xk k1 = 9) (S : gS) (H : Heap) (locs : List Loc) (ls : Array Slot), gX D (xcell g cI cB cZ cQ) xord g S s H locs → lv_has ls 8 [(0, .ref (g 62)), (1, .ref (g k1)), (2, .int x2), (3, .int x3)] → r2 k1 x2 x3 S = some o → W p l e (rmd 0) s m args below meth c H locs 0 0 (gE below args s D (xtys cI cB cZ cQ) (xcell g cI cB cZ cQ) xord g none o.2) (F0 m 2 ls [])) (K17 : ∀ (k1 : Nat) (x2 : Int32) (x3 : Int32) (x4 : Int32) (x5 : Int32) (x6 : Int32) (hk_k1 : xk k1 = 9) (S : gS) (H : Heap) (locs : List Loc) (ls : Array Slot), gX D (xcell g cI cB cZ cQ) xord g S s H locs → lv_has ls 8 [(0, .ref (g 62)), (1, .ref (g k1)), (2, .int x2), (3, .int x3), (4, .int x4), (5, .int x5), (6, .int x6)] → r17 k1 x2 x3 x4 x5 x6 S = some o → W p l e (rmd 0) s m args below meth c H locs 0 0 (gE below args s D (xtys cI cB cZ cQ) (xcell g cI cB cZ cQ) xord g none o.2) (F0 m 17 ls [])) (hk_k1 : xk k1 = 9) (X : gX D (xcell g cI cB cZ cQ) xord g S s H locs) (hl : lv_has ls 8 [(0, .ref (g 62)), (1, .ref (g k1)), (2, .int x2), (3, .int x3), (6, .int x6), (7, .int x7)]) (hF : fX2_markWorst_b59 N r2 r17 k1 x2 x3 x6 x7 S = some o) : W p l e (rmd 0) s m args below meth c H locs 0 0 (gE below args s D (xtys cI cB cZ cQ) (xcell g cI cB cZ cQ) xord g none o.2) (F0 m 59 ls []) := by
  unfold fX2_markWorst_b59 at hF
  refine lv_iload C.1.1 C.1.2.1 dX2_markWorst_59 (lv_at hl 4 rfl) ?_
  refine lv_istore (lv' := [(4, .int x6), (0, .ref (g 62)), (1, .ref (g k1)), (2, .int x2), (3, .int x3), (6, .int x6), (7, .int x7)]) C.1.1 C.1.2.1 dX2_markWorst_61 hl (by decide) rfl (fun ls hl => ?_)
  refine lv_iload C.1.1 C.1.2.1 dX2_markWorst_63 (lv_at hl 6 rfl) ?_
  refine lv_istore (lv' := [(5, .int x7), (4, .int x6), (0, .ref (g 62)), (1, .ref (g k1)), (2, .int x2), (3, .int x3), (6, .int x6), (7, .int x7)]) C.1.1 C.1.2.1 dX2_markWorst_65 hl (by decide) rfl (fun ls hl => ?_)
  exact bX2_markWorst_67 C O K2 K17 (hk_k1 : xk k1 = 9) X (lv_sub hl [2, 3, 4, 5, 1, 0, 6] rfl) hF
noncomputable def fX2_markWorst_b50 (N : Nat) (r2 : Nat → Int32 → Int32 → gS → Option (Int32 × gS)) (r17 : Nat → Int32 → Int32 → Int32 → Int32 → Int32 → gS → Option (Int32 × gS)) (k1 : Nat) (x2 : Int32) (x3 : Int32) (x4 : Int32) (x5 : Int32) (x6 : Int32) (t0 : Int32) (S : gS) : Option (Int32 × gS) := if t0 ≤ x5 then fX2_markWorst_b67 N r2 r17 k1 x2 x3 x4 x5 x6 S else fX2_markWorst_b59 N r2 r17 k1 x2 x3 x6 t0 S
theorem bX2_markWorst_50 {N : Nat} {r2 : Nat → Int32 → Int32 → gS → Option (Int32 × gS)} {r17 : Nat → Int32 → Int32 → Int32 → Int32 → Int32 → gS → Option (Int32 × gS)} {k1 : Nat} {x2 : Int32} {x3 : Int32} {x4 : Int32} {x5 : Int32} {x6 : Int32} {t0 : Int32} {S : gS} {H : Heap} {locs : List Loc} {ls : Array Slot} {o : Int32 × gS} (C : gC p s m args meth c cX2_markWorst 8 RX2 none D (xtys cI cB cZ cQ) xord g Am) (O : xO g cI cB cZ cQ Am) (K2 : ∀ (k1 : Nat) (x2 : Int32) (x3 : Int32) (hk_k1 : xk k1 = 9) (S : gS) (H : Heap) (locs : List Loc) (ls : Array Slot), gX D (xcell g cI cB cZ cQ) xord g S s H locs → lv_has ls 8 [(0, .ref (g 62)), (1, .ref (g k1)), (2, .int x2), (3, .int x3)] → r2 k1 x2 x3 S = some o → W p l e (rmd 0) s m args below meth c H locs 0 0 (gE below args s D (xtys cI cB cZ cQ) (xcell g cI cB cZ cQ) xord g none o.2) (F0 m 2 ls [])) (K17 : ∀ (k1 : Nat) (x2 : Int32) (x3 : Int32) (x4 : Int32) (x5 : Int32) (x6 : Int32) (hk_k1 : xk k1 = 9) (S : gS) (H : Heap) (locs : List Loc) (ls : Array Slot), gX D (xcell g cI cB cZ cQ) xord g S s H locs → lv_has ls 8 [(0, .ref (g 62)), (1, .ref (g k1)), (2, .int x2), (3, .int x3), (4, .int x4), (5, .int x5), (6, .int x6)] → r17 k1 x2 x3 x4 x5 x6 S = some o → W p l e (rmd 0) s m args below meth c H locs 0 0 (gE below args s D (xtys cI cB cZ cQ) (xcell g cI cB cZ cQ) xord g none o.2) (F0 m 17 ls [])) (hk_k1 : xk k1 = 9) (X : gX D (xcell g cI cB cZ cQ) xord g S s H locs) (hl : lv_has ls 8 [(0, .ref (g 62)), (1, .ref (g k1)), (2, .int x2), (3, .int x3), (4, .int x4), (5, .int x5), (6, .int x6)]) (hF : fX2_markWorst_b50 N r2 r17 k1 x2 x3 x4 x5 x6 t0 S = some o) : W p l e (rmd 0) s m args below meth c H locs 0 0 (gE below args s D (xtys cI cB cZ cQ) (xcell g cI cB cZ cQ) xord g none o.2) (F0 m 50 ls [.int t0]) := by
  unfold fX2_markWorst_b50 at hF
  refine lv_istore (lv' := [(7, .int t0), (0, .ref (g 62)), (1, .ref (g k1)), (2, .int x2), (3, .int x3), (4, .int x4), (5, .int x5), (6, .int x6)]) C.1.1 C.1.2.1 dX2_markWorst_50 hl (by decide) rfl (fun ls hl => ?_)
  refine lv_iload C.1.1 C.1.2.1 dX2_markWorst_52 (lv_at hl 0 rfl) ?_
  refine lv_iload C.1.1 C.1.2.1 dX2_markWorst_54 (lv_at hl 6 rfl) ?_
  refine lv_icmp_le (tgt := 67) C.1.1 C.1.2.1 dX2_markWorst_56 (by decide) (fun h_z => ?_) (fun h_z => ?_)
  · rw [if_pos h_z] at hF
    exact bX2_markWorst_67 C O K2 K17 (hk_k1 : xk k1 = 9) X (lv_sub hl [1, 2, 3, 4, 5, 6, 7] rfl) hF
  · rw [if_neg h_z] at hF
    exact bX2_markWorst_59 C O K2 K17 (hk_k1 : xk k1 = 9) X (lv_sub hl [1, 2, 3, 4, 7, 0] rfl) hF
noncomputable def fX2_markWorst_b41 (N : Nat) (r2 : Nat → Int32 → Int32 → gS → Option (Int32 × gS)) (r17 : Nat → Int32 → Int32 → Int32 → Int32 → Int32 → gS → Option (Int32 × gS)) (k1 : Nat) (x2 : Int32) (x3 : Int32) (x4 : Int32) (x5 : Int32) (x6 : Int32) (S : gS) : Option (Int32 × gS) := chk (inb x6 6) (lt (63 + 1 + Int32.toNatClampNeg x6) fun T1 => (chk (inb x3 21) (fX2_markWorst_b50 N r2 r17 k1 x2 x3 x4 x5 x6 (S T1 (Int32.toNatClampNeg x3)) S)))
theorem bX2_markWorst_41 {N : Nat} {r2 : Nat → Int32 → Int32 → gS → Option (Int32 × gS)} {r17 : Nat → Int32 → Int32 → Int32 → Int32 → Int32 → gS → Option (Int32 × gS)} {k1 : Nat} {x2 : Int32} {x3 : Int32} {x4 : Int32} {x5 : Int32} {x6 : Int32} {S : gS} {H : Heap} {locs : List Loc} {ls : Array Slot} {o : Int32 × gS} (C : gC p s m args meth c cX2_markWorst 8 RX2 none D (xtys cI cB cZ cQ) xord g Am) (O : xO g cI cB cZ cQ Am) (K2 : ∀ (k1 : Nat) (x2 : Int32) (x3 : Int32) (hk_k1 : xk k1 = 9) (S : gS) (H : Heap) (locs : List Loc) (ls : Array Slot), gX D (xcell g cI cB cZ cQ) xord g S s H locs → lv_has ls 8 [(0, .ref (g 62)), (1, .ref (g k1)), (2, .int x2), (3, .int x3)] → r2 k1 x2 x3 S = some o → W p l e (rmd 0) s m args below meth c H locs 0 0 (gE below args s D (xtys cI cB cZ cQ) (xcell g cI cB cZ cQ) xord g none o.2) (F0 m 2 ls [])) (K17 : ∀ (k1 : Nat) (x2 : Int32) (x3 : Int32) (x4 : Int32) (x5 : Int32) (x6 : Int32) (hk_k1 : xk k1 = 9) (S : gS) (H : Heap) (locs : List Loc) (ls : Array Slot), gX D (xcell g cI cB cZ cQ) xord g S s H locs → lv_has ls 8 [(0, .ref (g 62)), (1, .ref (g k1)), (2, .int x2), (3, .int x3), (4, .int x4), (5, .int x5), (6, .int x6)] → r17 k1 x2 x3 x4 x5 x6 S = some o → W p l e (rmd 0) s m args below meth c H locs 0 0 (gE below args s D (xtys cI cB cZ cQ) (xcell g cI cB cZ cQ) xord g none o.2) (F0 m 17 ls [])) (hk_k1 : xk k1 = 9) (X : gX D (xcell g cI cB cZ cQ) xord g S s H locs) (hl : lv_has ls 8 [(0, .ref (g 62)), (1, .ref (g k1)), (2, .int x2), (3, .int x3), (4, .int x4), (5, .int x5), (6, .int x6)]) (hF : fX2_markWorst_b41 N r2 r17 k1 x2 x3 x4 x5 x6 S = some o) : W p l e (rmd 0) s m args below meth c H locs 0 0 (gE below args s D (xtys cI cB cZ cQ) (xcell g cI cB cZ cQ) xord g none o.2) (F0 m 41 ls []) := by
  unfold fX2_markWorst_b41 at hF
  refine lv_aload_n C.1.1 C.1.2.1 dX2_markWorst_41 rfl (lv_at hl 0 rfl) ?_
  refine xg_X2_11 C O X (k := 62) rfl (j := 63) rfl dX2_markWorst_42 ?_
  refine lv_iload C.1.1 C.1.2.1 dX2_markWorst_45 (lv_at hl 6 rfl) ?_
  obtain ⟨h_1, hF⟩ := chk_some hF
  obtain ⟨T1, eT1, hF⟩ := lt_some hF
  have hk_T1 : xk T1 = 20 ∧ xN T1 = 21 := xq_63 (inb_vp h_1) eT1
  refine x_rQ C X (k := 63) rfl (n := 6) rfl (inb_vp h_1) eT1.symm dX2_markWorst_47 ?_
  refine lv_iload_n C.1.1 C.1.2.1 dX2_markWorst_48 rfl (lv_at hl 3 rfl) ?_
  obtain ⟨h_2, hF⟩ := chk_some hF
  refine x_rI C X (k := T1) hk_T1.1 (n := 21) hk_T1.2  (inb_vp h_2) rfl dX2_markWorst_49 ?_
  exact bX2_markWorst_50 C O K2 K17 (hk_k1 : xk k1 = 9) X (lv_sub hl [0, 1, 2, 3, 4, 5, 6] rfl) hF
noncomputable def fX2_markWorst_b32 (N : Nat) (r2 : Nat → Int32 → Int32 → gS → Option (Int32 × gS)) (r17 : Nat → Int32 → Int32 → Int32 → Int32 → Int32 → gS → Option (Int32 × gS)) (k1 : Nat) (x2 : Int32) (x3 : Int32) (x4 : Int32) (x5 : Int32) (x6 : Int32) (S : gS) : Option (Int32 × gS) := chk (inb x3 21) (fX2_markWorst_b50 N r2 r17 k1 x2 x3 x4 x5 x6 (S 70 (Int32.toNatClampNeg x3)) S)
theorem bX2_markWorst_32 {N : Nat} {r2 : Nat → Int32 → Int32 → gS → Option (Int32 × gS)} {r17 : Nat → Int32 → Int32 → Int32 → Int32 → Int32 → gS → Option (Int32 × gS)} {k1 : Nat} {x2 : Int32} {x3 : Int32} {x4 : Int32} {x5 : Int32} {x6 : Int32} {S : gS} {H : Heap} {locs : List Loc} {ls : Array Slot} {o : Int32 × gS} (C : gC p s m args meth c cX2_markWorst 8 RX2 none D (xtys cI cB cZ cQ) xord g Am) (O : xO g cI cB cZ cQ Am) (K2 : ∀ (k1 : Nat) (x2 : Int32) (x3 : Int32) (hk_k1 : xk k1 = 9) (S : gS) (H : Heap) (locs : List Loc) (ls : Array Slot), gX D (xcell g cI cB cZ cQ) xord g S s H locs → lv_has ls 8 [(0, .ref (g 62)), (1, .ref (g k1)), (2, .int x2), (3, .int x3)] → r2 k1 x2 x3 S = some o → W p l e (rmd 0) s m args below meth c H locs 0 0 (gE below args s D (xtys cI cB cZ cQ) (xcell g cI cB cZ cQ) xord g none o.2) (F0 m 2 ls [])) (K17 : ∀ (k1 : Nat) (x2 : Int32) (x3 : Int32) (x4 : Int32) (x5 : Int32) (x6 : Int32) (hk_k1 : xk k1 = 9) (S : gS) (H : Heap) (locs : List Loc) (ls : Array Slot), gX D (xcell g cI cB cZ cQ) xord g S s H locs → lv_has ls 8 [(0, .ref (g 62)), (1, .ref (g k1)), (2, .int x2), (3, .int x3), (4, .int x4), (5, .int x5), (6, .int x6)] → r17 k1 x2 x3 x4 x5 x6 S = some o → W p l e (rmd 0) s m args below meth c H locs 0 0 (gE below args s D (xtys cI cB cZ cQ) (xcell g cI cB cZ cQ) xord g none o.2) (F0 m 17 ls [])) (hk_k1 : xk k1 = 9) (X : gX D (xcell g cI cB cZ cQ) xord g S s H locs) (hl : lv_has ls 8 [(0, .ref (g 62)), (1, .ref (g k1)), (2, .int x2), (3, .int x3), (4, .int x4), (5, .int x5), (6, .int x6)]) (hF : fX2_markWorst_b32 N r2 r17 k1 x2 x3 x4 x5 x6 S = some o) : W p l e (rmd 0) s m args below meth c H locs 0 0 (gE below args s D (xtys cI cB cZ cQ) (xcell g cI cB cZ cQ) xord g none o.2) (F0 m 32 ls []) := by
  unfold fX2_markWorst_b32 at hF
  refine lv_aload_n C.1.1 C.1.2.1 dX2_markWorst_32 rfl (lv_at hl 0 rfl) ?_
  refine xg_X2_16 C O X (k := 62) rfl (j := 70) rfl dX2_markWorst_33 ?_
  refine lv_iload_n C.1.1 C.1.2.1 dX2_markWorst_36 rfl (lv_at hl 3 rfl) ?_
  obtain ⟨h_1, hF⟩ := chk_some hF
  refine x_rI C X (k := 70) rfl (n := 21) rfl  (inb_vp h_1) rfl dX2_markWorst_37 ?_
  refine lv_goto (tgt := 50) C.1.1 C.1.2.1 dX2_markWorst_38 (by decide) ?_
  exact bX2_markWorst_50 C O K2 K17 (hk_k1 : xk k1 = 9) X (lv_sub hl [0, 1, 2, 3, 4, 5, 6] rfl) hF
noncomputable def fX2_markWorst_b26 (N : Nat) (r2 : Nat → Int32 → Int32 → gS → Option (Int32 × gS)) (r17 : Nat → Int32 → Int32 → Int32 → Int32 → Int32 → gS → Option (Int32 × gS)) (k1 : Nat) (x2 : Int32) (x3 : Int32) (x4 : Int32) (x5 : Int32) (x6 : Int32) (S : gS) : Option (Int32 × gS) := if x6 = x2 then fX2_markWorst_b32 N r2 r17 k1 x2 x3 x4 x5 x6 S else fX2_markWorst_b41 N r2 r17 k1 x2 x3 x4 x5 x6 S
theorem bX2_markWorst_26 {N : Nat} {r2 : Nat → Int32 → Int32 → gS → Option (Int32 × gS)} {r17 : Nat → Int32 → Int32 → Int32 → Int32 → Int32 → gS → Option (Int32 × gS)} {k1 : Nat} {x2 : Int32} {x3 : Int32} {x4 : Int32} {x5 : Int32} {x6 : Int32} {S : gS} {H : Heap} {locs : List Loc} {ls : Array Slot} {o : Int32 × gS} (C : gC p s m args meth c cX2_markWorst 8 RX2 none D (xtys cI cB cZ cQ) xord g Am) (O : xO g cI cB cZ cQ Am) (K2 : ∀ (k1 : Nat) (x2 : Int32) (x3 : Int32) (hk_k1 : xk k1 = 9) (S : gS) (H : Heap) (locs : List Loc) (ls : Array Slot), gX D (xcell g cI cB cZ cQ) xord g S s H locs → lv_has ls 8 [(0, .ref (g 62)), (1, .ref (g k1)), (2, .int x2), (3, .int x3)] → r2 k1 x2 x3 S = some o → W p l e (rmd 0) s m args below meth c H locs 0 0 (gE below args s D (xtys cI cB cZ cQ) (xcell g cI cB cZ cQ) xord g none o.2) (F0 m 2 ls [])) (K17 : ∀ (k1 : Nat) (x2 : Int32) (x3 : Int32) (x4 : Int32) (x5 : Int32) (x6 : Int32) (hk_k1 : xk k1 = 9) (S : gS) (H : Heap) (locs : List Loc) (ls : Array Slot), gX D (xcell g cI cB cZ cQ) xord g S s H locs → lv_has ls 8 [(0, .ref (g 62)), (1, .ref (g k1)), (2, .int x2), (3, .int x3), (4, .int x4), (5, .int x5), (6, .int x6)] → r17 k1 x2 x3 x4 x5 x6 S = some o → W p l e (rmd 0) s m args below meth c H locs 0 0 (gE below args s D (xtys cI cB cZ cQ) (xcell g cI cB cZ cQ) xord g none o.2) (F0 m 17 ls [])) (hk_k1 : xk k1 = 9) (X : gX D (xcell g cI cB cZ cQ) xord g S s H locs) (hl : lv_has ls 8 [(0, .ref (g 62)), (1, .ref (g k1)), (2, .int x2), (3, .int x3), (4, .int x4), (5, .int x5), (6, .int x6)]) (hF : fX2_markWorst_b26 N r2 r17 k1 x2 x3 x4 x5 x6 S = some o) : W p l e (rmd 0) s m args below meth c H locs 0 0 (gE below args s D (xtys cI cB cZ cQ) (xcell g cI cB cZ cQ) xord g none o.2) (F0 m 26 ls []) := by
  unfold fX2_markWorst_b26 at hF
  refine lv_iload C.1.1 C.1.2.1 dX2_markWorst_26 (lv_at hl 6 rfl) ?_
  refine lv_iload_n C.1.1 C.1.2.1 dX2_markWorst_28 rfl (lv_at hl 2 rfl) ?_
  refine lv_icmp_ne (tgt := 41) C.1.1 C.1.2.1 dX2_markWorst_29 (by decide) (fun h_z => ?_) (fun h_z => ?_)
  · rw [if_neg h_z] at hF
    exact bX2_markWorst_41 C O K2 K17 (hk_k1 : xk k1 = 9) X (lv_sub hl [0, 1, 2, 3, 4, 5, 6] rfl) hF
  · rw [if_pos h_z] at hF
    exact bX2_markWorst_32 C O K2 K17 (hk_k1 : xk k1 = 9) X (lv_sub hl [0, 1, 2, 3, 4, 5, 6] rfl) hF
noncomputable def fX2_markWorst_b17 (N : Nat) (r2 : Nat → Int32 → Int32 → gS → Option (Int32 × gS)) (r17 : Nat → Int32 → Int32 → Int32 → Int32 → Int32 → gS → Option (Int32 × gS)) (k1 : Nat) (x2 : Int32) (x3 : Int32) (x4 : Int32) (x5 : Int32) (x6 : Int32) (S : gS) : Option (Int32 × gS) := if (S k1 5) ≤ x6 then fX2_markWorst_b73 N r2 k1 x2 x3 x4 S else fX2_markWorst_b26 N r2 r17 k1 x2 x3 x4 x5 x6 S
theorem bX2_markWorst_17 {N : Nat} {r2 : Nat → Int32 → Int32 → gS → Option (Int32 × gS)} {r17 : Nat → Int32 → Int32 → Int32 → Int32 → Int32 → gS → Option (Int32 × gS)} {k1 : Nat} {x2 : Int32} {x3 : Int32} {x4 : Int32} {x5 : Int32} {x6 : Int32} {S : gS} {H : Heap} {locs : List Loc} {ls : Array Slot} {o : Int32 × gS} (C : gC p s m args meth c cX2_markWorst 8 RX2 none D (xtys cI cB cZ cQ) xord g Am) (O : xO g cI cB cZ cQ Am) (K2 : ∀ (k1 : Nat) (x2 : Int32) (x3 : Int32) (hk_k1 : xk k1 = 9) (S : gS) (H : Heap) (locs : List Loc) (ls : Array Slot), gX D (xcell g cI cB cZ cQ) xord g S s H locs → lv_has ls 8 [(0, .ref (g 62)), (1, .ref (g k1)), (2, .int x2), (3, .int x3)] → r2 k1 x2 x3 S = some o → W p l e (rmd 0) s m args below meth c H locs 0 0 (gE below args s D (xtys cI cB cZ cQ) (xcell g cI cB cZ cQ) xord g none o.2) (F0 m 2 ls [])) (K17 : ∀ (k1 : Nat) (x2 : Int32) (x3 : Int32) (x4 : Int32) (x5 : Int32) (x6 : Int32) (hk_k1 : xk k1 = 9) (S : gS) (H : Heap) (locs : List Loc) (ls : Array Slot), gX D (xcell g cI cB cZ cQ) xord g S s H locs → lv_has ls 8 [(0, .ref (g 62)), (1, .ref (g k1)), (2, .int x2), (3, .int x3), (4, .int x4), (5, .int x5), (6, .int x6)] → r17 k1 x2 x3 x4 x5 x6 S = some o → W p l e (rmd 0) s m args below meth c H locs 0 0 (gE below args s D (xtys cI cB cZ cQ) (xcell g cI cB cZ cQ) xord g none o.2) (F0 m 17 ls [])) (hk_k1 : xk k1 = 9) (X : gX D (xcell g cI cB cZ cQ) xord g S s H locs) (hl : lv_has ls 8 [(0, .ref (g 62)), (1, .ref (g k1)), (2, .int x2), (3, .int x3), (4, .int x4), (5, .int x5), (6, .int x6)]) (hF : fX2_markWorst_b17 N r2 r17 k1 x2 x3 x4 x5 x6 S = some o) : W p l e (rmd 0) s m args below meth c H locs 0 0 (gE below args s D (xtys cI cB cZ cQ) (xcell g cI cB cZ cQ) xord g none o.2) (F0 m 17 ls []) := by
  unfold fX2_markWorst_b17 at hF
  refine lv_iload C.1.1 C.1.2.1 dX2_markWorst_17 (lv_at hl 6 rfl) ?_
  refine lv_aload_n C.1.1 C.1.2.1 dX2_markWorst_19 rfl (lv_at hl 1 rfl) ?_
  refine xg_X2_34 C O X (k := k1) hk_k1 dX2_markWorst_20 ?_
  refine lv_icmp_ge (tgt := 73) C.1.1 C.1.2.1 dX2_markWorst_23 (by decide) (fun h_z => ?_) (fun h_z => ?_)
  · rw [if_pos h_z] at hF
    exact bX2_markWorst_73 C O K2 (hk_k1 : xk k1 = 9) X (lv_sub hl [0, 1, 2, 3, 4] rfl) hF
  · rw [if_neg h_z] at hF
    exact bX2_markWorst_26 C O K2 K17 (hk_k1 : xk k1 = 9) X (lv_sub hl [0, 1, 2, 3, 4, 5, 6] rfl) hF
noncomputable def fX2_markWorst_h17 (N : Nat) (r2 : Nat → Int32 → Int32 → gS → Option (Int32 × gS)) : Nat → Nat → Int32 → Int32 → Int32 → Int32 → Int32 → gS → Option (Int32 × gS)
  | 0, _, _, _, _, _, _, _ => none
  | n + 1, k1, x2, x3, x4, x5, x6, S => fX2_markWorst_b17 N r2 (fX2_markWorst_h17 N r2 n) k1 x2 x3 x4 x5 x6 S
theorem hX2_markWorst_17 {N : Nat} {r2 : Nat → Int32 → Int32 → gS → Option (Int32 × gS)} {o : Int32 × gS} (C : gC p s m args meth c cX2_markWorst 8 RX2 none D (xtys cI cB cZ cQ) xord g Am) (O : xO g cI cB cZ cQ Am) (K2 : ∀ (k1 : Nat) (x2 : Int32) (x3 : Int32) (hk_k1 : xk k1 = 9) (S : gS) (H : Heap) (locs : List Loc) (ls : Array Slot), gX D (xcell g cI cB cZ cQ) xord g S s H locs → lv_has ls 8 [(0, .ref (g 62)), (1, .ref (g k1)), (2, .int x2), (3, .int x3)] → r2 k1 x2 x3 S = some o → W p l e (rmd 0) s m args below meth c H locs 0 0 (gE below args s D (xtys cI cB cZ cQ) (xcell g cI cB cZ cQ) xord g none o.2) (F0 m 2 ls [])) : ∀ (n : Nat) (k1 : Nat) (x2 : Int32) (x3 : Int32) (x4 : Int32) (x5 : Int32) (x6 : Int32) (hk_k1 : xk k1 = 9) (S : gS) (H : Heap) (locs : List Loc) (ls : Array Slot), gX D (xcell g cI cB cZ cQ) xord g S s H locs → lv_has ls 8 [(0, .ref (g 62)), (1, .ref (g k1)), (2, .int x2), (3, .int x3), (4, .int x4), (5, .int x5), (6, .int x6)] → fX2_markWorst_h17 N r2 n k1 x2 x3 x4 x5 x6 S = some o → W p l e (rmd 0) s m args below meth c H locs 0 0 (gE below args s D (xtys cI cB cZ cQ) (xcell g cI cB cZ cQ) xord g none o.2) (F0 m 17 ls []) := by
  intro n
  induction n with
  | zero =>
    intro k1 x2 x3 x4 x5 x6 hk_k1 S H locs ls X hl hF
    exact absurd (show (none : Option (Int32 × gS)) = some o from hF) (by simp)
  | succ n ih =>
    intro k1 x2 x3 x4 x5 x6 hk_k1 S H locs ls X hl hF
    have hF : fX2_markWorst_b17 N r2 (fX2_markWorst_h17 N r2 n) k1 x2 x3 x4 x5 x6 S = some o := hF
    exact bX2_markWorst_17 C O K2 ih hk_k1 X hl hF
noncomputable def fX2_markWorst_b8 (N : Nat) (r2 : Nat → Int32 → Int32 → gS → Option (Int32 × gS)) (k1 : Nat) (x2 : Int32) (x3 : Int32) (S : gS) : Option (Int32 × gS) := fX2_markWorst_h17 N r2 N k1 x2 x3 0 ((-1)) 0 S
theorem bX2_markWorst_8 {N : Nat} {r2 : Nat → Int32 → Int32 → gS → Option (Int32 × gS)} {k1 : Nat} {x2 : Int32} {x3 : Int32} {S : gS} {H : Heap} {locs : List Loc} {ls : Array Slot} {o : Int32 × gS} (C : gC p s m args meth c cX2_markWorst 8 RX2 none D (xtys cI cB cZ cQ) xord g Am) (O : xO g cI cB cZ cQ Am) (K2 : ∀ (k1 : Nat) (x2 : Int32) (x3 : Int32) (hk_k1 : xk k1 = 9) (S : gS) (H : Heap) (locs : List Loc) (ls : Array Slot), gX D (xcell g cI cB cZ cQ) xord g S s H locs → lv_has ls 8 [(0, .ref (g 62)), (1, .ref (g k1)), (2, .int x2), (3, .int x3)] → r2 k1 x2 x3 S = some o → W p l e (rmd 0) s m args below meth c H locs 0 0 (gE below args s D (xtys cI cB cZ cQ) (xcell g cI cB cZ cQ) xord g none o.2) (F0 m 2 ls [])) (hk_k1 : xk k1 = 9) (X : gX D (xcell g cI cB cZ cQ) xord g S s H locs) (hl : lv_has ls 8 [(0, .ref (g 62)), (1, .ref (g k1)), (2, .int x2), (3, .int x3)]) (hF : fX2_markWorst_b8 N r2 k1 x2 x3 S = some o) : W p l e (rmd 0) s m args below meth c H locs 0 0 (gE below args s D (xtys cI cB cZ cQ) (xcell g cI cB cZ cQ) xord g none o.2) (F0 m 8 ls []) := by
  unfold fX2_markWorst_b8 at hF
  refine lv_iconst (v := 0) C.1.1 C.1.2.1 dX2_markWorst_8 (by decide) ?_
  refine lv_istore (lv' := [(4, .int 0), (0, .ref (g 62)), (1, .ref (g k1)), (2, .int x2), (3, .int x3)]) C.1.1 C.1.2.1 dX2_markWorst_9 hl (by decide) rfl (fun ls hl => ?_)
  refine lv_iconst (v := (-1)) C.1.1 C.1.2.1 dX2_markWorst_11 (by decide) ?_
  refine lv_istore (lv' := [(5, .int ((-1))), (4, .int 0), (0, .ref (g 62)), (1, .ref (g k1)), (2, .int x2), (3, .int x3)]) C.1.1 C.1.2.1 dX2_markWorst_12 hl (by decide) rfl (fun ls hl => ?_)
  refine lv_iconst (v := 0) C.1.1 C.1.2.1 dX2_markWorst_14 (by decide) ?_
  refine lv_istore (lv' := [(6, .int 0), (5, .int ((-1))), (4, .int 0), (0, .ref (g 62)), (1, .ref (g k1)), (2, .int x2), (3, .int x3)]) C.1.1 C.1.2.1 dX2_markWorst_15 hl (by decide) rfl (fun ls hl => ?_)
  exact hX2_markWorst_17 C O K2 N _ _ _ _ _ _ (hk_k1 : xk k1 = 9) _ _ _ _ X (lv_sub hl [3, 4, 5, 6, 2, 1, 0] rfl) hF
noncomputable def fX2_markWorst_b2 (N : Nat) (r2 : Nat → Int32 → Int32 → gS → Option (Int32 × gS)) (k1 : Nat) (x2 : Int32) (x3 : Int32) (S : gS) : Option (Int32 × gS) := if 20 < x3 then fX2_markWorst_b92 N S else fX2_markWorst_b8 N r2 k1 x2 x3 S
theorem bX2_markWorst_2 {N : Nat} {r2 : Nat → Int32 → Int32 → gS → Option (Int32 × gS)} {k1 : Nat} {x2 : Int32} {x3 : Int32} {S : gS} {H : Heap} {locs : List Loc} {ls : Array Slot} {o : Int32 × gS} (C : gC p s m args meth c cX2_markWorst 8 RX2 none D (xtys cI cB cZ cQ) xord g Am) (O : xO g cI cB cZ cQ Am) (K2 : ∀ (k1 : Nat) (x2 : Int32) (x3 : Int32) (hk_k1 : xk k1 = 9) (S : gS) (H : Heap) (locs : List Loc) (ls : Array Slot), gX D (xcell g cI cB cZ cQ) xord g S s H locs → lv_has ls 8 [(0, .ref (g 62)), (1, .ref (g k1)), (2, .int x2), (3, .int x3)] → r2 k1 x2 x3 S = some o → W p l e (rmd 0) s m args below meth c H locs 0 0 (gE below args s D (xtys cI cB cZ cQ) (xcell g cI cB cZ cQ) xord g none o.2) (F0 m 2 ls [])) (hk_k1 : xk k1 = 9) (X : gX D (xcell g cI cB cZ cQ) xord g S s H locs) (hl : lv_has ls 8 [(0, .ref (g 62)), (1, .ref (g k1)), (2, .int x2), (3, .int x3)]) (hF : fX2_markWorst_b2 N r2 k1 x2 x3 S = some o) : W p l e (rmd 0) s m args below meth c H locs 0 0 (gE below args s D (xtys cI cB cZ cQ) (xcell g cI cB cZ cQ) xord g none o.2) (F0 m 2 ls []) := by
  unfold fX2_markWorst_b2 at hF
  refine lv_iload_n C.1.1 C.1.2.1 dX2_markWorst_2 rfl (lv_at hl 3 rfl) ?_
  refine lv_bipush (v := 20) C.1.1 C.1.2.1 dX2_markWorst_3 (by decide) ?_
  refine lv_icmp_gt (tgt := 92) C.1.1 C.1.2.1 dX2_markWorst_5 (by decide) (fun h_z => ?_) (fun h_z => ?_)
  · rw [if_pos h_z] at hF
    exact bX2_markWorst_92 C O X (lv_sub hl [] rfl) hF
  · rw [if_neg h_z] at hF
    exact bX2_markWorst_8 C O K2 (hk_k1 : xk k1 = 9) X (lv_sub hl [0, 1, 2, 3] rfl) hF
noncomputable def fX2_markWorst_h2 (N : Nat) : Nat → Nat → Int32 → Int32 → gS → Option (Int32 × gS)
  | 0, _, _, _, _ => none
  | n + 1, k1, x2, x3, S => fX2_markWorst_b2 N (fX2_markWorst_h2 N n) k1 x2 x3 S
theorem hX2_markWorst_2 {N : Nat} {o : Int32 × gS} (C : gC p s m args meth c cX2_markWorst 8 RX2 none D (xtys cI cB cZ cQ) xord g Am) (O : xO g cI cB cZ cQ Am) : ∀ (n : Nat) (k1 : Nat) (x2 : Int32) (x3 : Int32) (hk_k1 : xk k1 = 9) (S : gS) (H : Heap) (locs : List Loc) (ls : Array Slot), gX D (xcell g cI cB cZ cQ) xord g S s H locs → lv_has ls 8 [(0, .ref (g 62)), (1, .ref (g k1)), (2, .int x2), (3, .int x3)] → fX2_markWorst_h2 N n k1 x2 x3 S = some o → W p l e (rmd 0) s m args below meth c H locs 0 0 (gE below args s D (xtys cI cB cZ cQ) (xcell g cI cB cZ cQ) xord g none o.2) (F0 m 2 ls []) := by
  intro n
  induction n with
  | zero =>
    intro k1 x2 x3 hk_k1 S H locs ls X hl hF
    exact absurd (show (none : Option (Int32 × gS)) = some o from hF) (by simp)
  | succ n ih =>
    intro k1 x2 x3 hk_k1 S H locs ls X hl hF
    have hF : fX2_markWorst_b2 N (fX2_markWorst_h2 N n) k1 x2 x3 S = some o := hF
    exact bX2_markWorst_2 C O ih hk_k1 X hl hF
noncomputable def fX2_markWorst_b0 (N : Nat) (k1 : Nat) (x2 : Int32) (S : gS) : Option (Int32 × gS) := fX2_markWorst_h2 N N k1 x2 1 S
theorem bX2_markWorst_0 {N : Nat} {k1 : Nat} {x2 : Int32} {S : gS} {H : Heap} {locs : List Loc} {ls : Array Slot} {o : Int32 × gS} (C : gC p s m args meth c cX2_markWorst 8 RX2 none D (xtys cI cB cZ cQ) xord g Am) (O : xO g cI cB cZ cQ Am) (hk_k1 : xk k1 = 9) (X : gX D (xcell g cI cB cZ cQ) xord g S s H locs) (hl : lv_has ls 8 [(0, .ref (g 62)), (1, .ref (g k1)), (2, .int x2)]) (hF : fX2_markWorst_b0 N k1 x2 S = some o) : W p l e (rmd 0) s m args below meth c H locs 0 0 (gE below args s D (xtys cI cB cZ cQ) (xcell g cI cB cZ cQ) xord g none o.2) (F0 m 0 ls []) := by
  unfold fX2_markWorst_b0 at hF
  refine lv_iconst (v := 1) C.1.1 C.1.2.1 dX2_markWorst_0 (by decide) ?_
  refine lv_istore_n (lv' := [(3, .int 1), (0, .ref (g 62)), (1, .ref (g k1)), (2, .int x2)]) C.1.1 C.1.2.1 dX2_markWorst_1 rfl hl (by decide) rfl (fun ls hl => ?_)
  exact hX2_markWorst_2 C O N _ _ _ (hk_k1 : xk k1 = 9) _ _ _ _ X (lv_sub hl [1, 2, 3, 0] rfl) hF
noncomputable def fX2_markWorst (N : Nat) (k1 : Nat) (x2 : Int32) (S : gS) : Option (Int32 × gS) := fX2_markWorst_b0 N k1 x2 S
theorem kX2_markWorst {l : Launch} {D : va_G} {g : Nat → Nat} {cI cB cZ cQ : ClassId} {Am : (Nat → Prop) → State → Heap → Prop} (O : xO g cI cB cZ cQ Am) (P : gAm Am) (N : Nat) (k1 : Nat) (x2 : Int32) (hk_k1 : xk k1 = 9) (S : gS) (o : Int32 × gS) (hF : fX2_markWorst N k1 x2 S = some o) : gM l yX2_markWorst cX2_markWorst 8 none 0 D (xtys cI cB cZ cQ) (xcell g cI cB cZ cQ) xord g Am [.ref (g 62), .ref (g k1), .int x2] S none o.2 :=
  gM_of O.1 P (by decide) (Nat.le_of_ble_eq_true rfl) (fun p e s m args below meth c ls C X hl => bX2_markWorst_0 C O hk_k1 X (lv_sub hl [0, 1, 2] rfl) hF)
-- X3.isFine
noncomputable def fX3_isFine_b12 (N : Nat) (t0 : Int32) (S : gS) : Option (Int32 × gS) := chk (zb t0) (some (t0, S))
theorem bX3_isFine_12 {N : Nat} {t0 : Int32} {S : gS} {H : Heap} {locs : List Loc} {ls : Array Slot} {o : Int32 × gS} (C : gC p s m args meth c cX3_isFine 1 RX3 ((some .boolean)) D (xtys cI cB cZ cQ) xord g Am) (O : xO g cI cB cZ cQ Am) (X : gX D (xcell g cI cB cZ cQ) xord g S s H locs) (hl : lv_has ls 1 []) (hF : fX3_isFine_b12 N t0 S = some o) : W p l e (rmd 0) s m args below meth c H locs 0 0 (gE below args s D (xtys cI cB cZ cQ) (xcell g cI cB cZ cQ) xord g (some (.int o.1)) o.2) (F0 m 12 ls [.int t0]) := by
  unfold fX3_isFine_b12 at hF
  obtain ⟨h_1, hF⟩ := chk_some hF
  cases hF
  exact g_zret C X h_1 dX3_isFine_12
noncomputable def fX3_isFine_b11 (N : Nat) (S : gS) : Option (Int32 × gS) := fX3_isFine_b12 N 0 S
theorem bX3_isFine_11 {N : Nat} {S : gS} {H : Heap} {locs : List Loc} {ls : Array Slot} {o : Int32 × gS} (C : gC p s m args meth c cX3_isFine 1 RX3 ((some .boolean)) D (xtys cI cB cZ cQ) xord g Am) (O : xO g cI cB cZ cQ Am) (X : gX D (xcell g cI cB cZ cQ) xord g S s H locs) (hl : lv_has ls 1 []) (hF : fX3_isFine_b11 N S = some o) : W p l e (rmd 0) s m args below meth c H locs 0 0 (gE below args s D (xtys cI cB cZ cQ) (xcell g cI cB cZ cQ) xord g (some (.int o.1)) o.2) (F0 m 11 ls []) := by
  unfold fX3_isFine_b11 at hF
  refine lv_iconst (v := 0) C.1.1 C.1.2.1 dX3_isFine_11 (by decide) ?_
  exact bX3_isFine_12 C O X (lv_sub hl [] rfl) hF
noncomputable def fX3_isFine_b7 (N : Nat) (S : gS) : Option (Int32 × gS) := fX3_isFine_b12 N 1 S
theorem bX3_isFine_7 {N : Nat} {S : gS} {H : Heap} {locs : List Loc} {ls : Array Slot} {o : Int32 × gS} (C : gC p s m args meth c cX3_isFine 1 RX3 ((some .boolean)) D (xtys cI cB cZ cQ) xord g Am) (O : xO g cI cB cZ cQ Am) (X : gX D (xcell g cI cB cZ cQ) xord g S s H locs) (hl : lv_has ls 1 []) (hF : fX3_isFine_b7 N S = some o) : W p l e (rmd 0) s m args below meth c H locs 0 0 (gE below args s D (xtys cI cB cZ cQ) (xcell g cI cB cZ cQ) xord g (some (.int o.1)) o.2) (F0 m 7 ls []) := by
  unfold fX3_isFine_b7 at hF
  refine lv_iconst (v := 1) C.1.1 C.1.2.1 dX3_isFine_7 (by decide) ?_
  refine lv_goto (tgt := 12) C.1.1 C.1.2.1 dX3_isFine_8 (by decide) ?_
  exact bX3_isFine_12 C O X (lv_sub hl [] rfl) hF
noncomputable def fX3_isFine_b0 (N : Nat) (S : gS) : Option (Int32 × gS) := if (S 1 2) = 0 then fX3_isFine_b7 N S else fX3_isFine_b11 N S
theorem bX3_isFine_0 {N : Nat} {S : gS} {H : Heap} {locs : List Loc} {ls : Array Slot} {o : Int32 × gS} (C : gC p s m args meth c cX3_isFine 1 RX3 ((some .boolean)) D (xtys cI cB cZ cQ) xord g Am) (O : xO g cI cB cZ cQ Am) (X : gX D (xcell g cI cB cZ cQ) xord g S s H locs) (hl : lv_has ls 1 [(0, .ref (g 1))]) (hF : fX3_isFine_b0 N S = some o) : W p l e (rmd 0) s m args below meth c H locs 0 0 (gE below args s D (xtys cI cB cZ cQ) (xcell g cI cB cZ cQ) xord g (some (.int o.1)) o.2) (F0 m 0 ls []) := by
  unfold fX3_isFine_b0 at hF
  refine lv_aload_n C.1.1 C.1.2.1 dX3_isFine_0 rfl (lv_at hl 0 rfl) ?_
  refine xg_X3_25 C O X (k := 1) rfl dX3_isFine_1 ?_
  refine lv_if_ne (tgt := 11) C.1.1 C.1.2.1 dX3_isFine_4 (by decide) (fun h_z => ?_) (fun h_z => ?_)
  · rw [if_neg h_z] at hF
    exact bX3_isFine_11 C O X (lv_sub hl [] rfl) hF
  · rw [if_pos h_z] at hF
    exact bX3_isFine_7 C O X (lv_sub hl [] rfl) hF
noncomputable def fX3_isFine (N : Nat) (S : gS) : Option (Int32 × gS) := fX3_isFine_b0 N S
theorem kX3_isFine {l : Launch} {D : va_G} {g : Nat → Nat} {cI cB cZ cQ : ClassId} {Am : (Nat → Prop) → State → Heap → Prop} (O : xO g cI cB cZ cQ Am) (P : gAm Am) (N : Nat) (S : gS) (o : Int32 × gS) (hF : fX3_isFine N S = some o) : gM l yX3_isFine cX3_isFine 1 ((some .boolean)) 0 D (xtys cI cB cZ cQ) (xcell g cI cB cZ cQ) xord g Am [.ref (g 1)] S (some (.int o.1)) o.2 :=
  gM_of O.1 P (by decide) (Nat.le_of_ble_eq_true rfl) (fun p e s m args below meth c ls C X hl => bX3_isFine_0 C O X (lv_sub hl [0] rfl) hF)
-- X3.refuse
noncomputable def fX3_refuse_b23 (N : Nat) (S : gS) : Option (Int32 × gS) := some (0, S)
theorem bX3_refuse_23 {N : Nat} {S : gS} {H : Heap} {locs : List Loc} {ls : Array Slot} {o : Int32 × gS} (C : gC p s m args meth c cX3_refuse 2 RX3 none D (xtys cI cB cZ cQ) xord g Am) (O : xO g cI cB cZ cQ Am) (X : gX D (xcell g cI cB cZ cQ) xord g S s H locs) (hl : lv_has ls 2 []) (hF : fX3_refuse_b23 N S = some o) : W p l e (rmd 1) s m args below meth c H locs 0 0 (gE below args s D (xtys cI cB cZ cQ) (xcell g cI cB cZ cQ) xord g none o.2) (F0 m 23 ls []) := by
  unfold fX3_refuse_b23 at hF
  cases hF
  exact g_vret C X dX3_refuse_23
noncomputable def fX3_refuse_b7 (N : Nat) (x1 : Int32) (S : gS) : Option (Int32 × gS) := lt (sU S 1 2 x1) fun S1 => (lt (sU S1 1 3 (S1 2 5)) fun S2 => (fX3_refuse_b23 N S2))
theorem bX3_refuse_7 {N : Nat} {x1 : Int32} {S : gS} {H : Heap} {locs : List Loc} {ls : Array Slot} {o : Int32 × gS} (C : gC p s m args meth c cX3_refuse 2 RX3 none D (xtys cI cB cZ cQ) xord g Am) (O : xO g cI cB cZ cQ Am) (X : gX D (xcell g cI cB cZ cQ) xord g S s H locs) (hl : lv_has ls 2 [(0, .ref (g 1)), (1, .int x1)]) (hF : fX3_refuse_b7 N x1 S = some o) : W p l e (rmd 1) s m args below meth c H locs 0 0 (gE below args s D (xtys cI cB cZ cQ) (xcell g cI cB cZ cQ) xord g none o.2) (F0 m 7 ls []) := by
  unfold fX3_refuse_b7 at hF
  refine lv_aload_n C.1.1 C.1.2.1 dX3_refuse_7 rfl (lv_at hl 0 rfl) ?_
  refine lv_iload_n C.1.1 C.1.2.1 dX3_refuse_8 rfl (lv_at hl 1 rfl) ?_
  obtain ⟨S1, eS1, hF⟩ := lt_some hF
  refine xp_X3_25 C O X (k := 1) rfl eS1 dX3_refuse_9 (fun H locs X => ?_)
  refine lv_aload_n C.1.1 C.1.2.1 dX3_refuse_12 rfl (lv_at hl 0 rfl) ?_
  refine lv_aload_n C.1.1 C.1.2.1 dX3_refuse_13 rfl (lv_at hl 0 rfl) ?_
  refine xg_X3_12 C O X (k := 1) rfl (j := 2) rfl dX3_refuse_14 ?_
  refine xg_X3_53 C O X (k := 2) rfl dX3_refuse_17 ?_
  obtain ⟨S2, eS2, hF⟩ := lt_some hF
  refine xp_X3_29 C O X (k := 1) rfl eS2 dX3_refuse_20 (fun H locs X => ?_)
  exact bX3_refuse_23 C O X (lv_sub hl [] rfl) hF
noncomputable def fX3_refuse_b0 (N : Nat) (x1 : Int32) (S : gS) : Option (Int32 × gS) := bnd (fX3_isFine N S) fun q1 => (if q1.1 = 0 then fX3_refuse_b23 N q1.2 else fX3_refuse_b7 N x1 q1.2)
theorem bX3_refuse_0 {N : Nat} {x1 : Int32} {S : gS} {H : Heap} {locs : List Loc} {ls : Array Slot} {o : Int32 × gS} (C : gC p s m args meth c cX3_refuse 2 RX3 none D (xtys cI cB cZ cQ) xord g Am) (O : xO g cI cB cZ cQ Am) (X : gX D (xcell g cI cB cZ cQ) xord g S s H locs) (hl : lv_has ls 2 [(0, .ref (g 1)), (1, .int x1)]) (hF : fX3_refuse_b0 N x1 S = some o) : W p l e (rmd 1) s m args below meth c H locs 0 0 (gE below args s D (xtys cI cB cZ cQ) (xcell g cI cB cZ cQ) xord g none o.2) (F0 m 0 ls []) := by
  unfold fX3_refuse_b0 at hF
  refine lv_aload_n C.1.1 C.1.2.1 dX3_refuse_0 rfl (lv_at hl 0 rfl) ?_
  obtain ⟨q1, hq1, hF⟩ := bnd_some hF
  refine x_callVi C X (k := 1) xv_X3_39 (rfl : xk 1 = 3) rfl rfl (by decide) (kX3_isFine O C.2.2.2.2.1 N S q1 hq1) (Nat.le_of_ble_eq_true rfl) (Nat.le_of_ble_eq_true rfl) (Nat.le_of_ble_eq_true rfl) (Nat.le_of_ble_eq_true rfl) rfl hl.1 rfl (Nat.le_of_ble_eq_true rfl) dX3_refuse_1 (fun H locs X => ?_)
  refine lv_if_eq (tgt := 23) C.1.1 C.1.2.1 dX3_refuse_4 (by decide) (fun h_z => ?_) (fun h_z => ?_)
  · rw [if_pos h_z] at hF
    exact bX3_refuse_23 C O X (lv_sub hl [] rfl) hF
  · rw [if_neg h_z] at hF
    exact bX3_refuse_7 C O X (lv_sub hl [0, 1] rfl) hF
noncomputable def fX3_refuse (N : Nat) (x1 : Int32) (S : gS) : Option (Int32 × gS) := fX3_refuse_b0 N x1 S
theorem kX3_refuse {l : Launch} {D : va_G} {g : Nat → Nat} {cI cB cZ cQ : ClassId} {Am : (Nat → Prop) → State → Heap → Prop} (O : xO g cI cB cZ cQ Am) (P : gAm Am) (N : Nat) (x1 : Int32) (S : gS) (o : Int32 × gS) (hF : fX3_refuse N x1 S = some o) : gM l yX3_refuse cX3_refuse 2 none 1 D (xtys cI cB cZ cQ) (xcell g cI cB cZ cQ) xord g Am [.ref (g 1), .int x1] S none o.2 :=
  gM_of O.1 P (by decide) (Nat.le_of_ble_eq_true rfl) (fun p e s m args below meth c ls C X hl => bX3_refuse_0 C O X (lv_sub hl [0, 1] rfl) hF)
-- X4.clear
noncomputable def fX4_clear_b0 (N : Nat) (k0 : Nat) (S : gS) : Option (Int32 × gS) := lt (sU S k0 3 0) fun S1 => (some (0, S1))
theorem bX4_clear_0 {N : Nat} {k0 : Nat} {S : gS} {H : Heap} {locs : List Loc} {ls : Array Slot} {o : Int32 × gS} (C : gC p s m args meth c cX4_clear 1 RX4 none D (xtys cI cB cZ cQ) xord g Am) (O : xO g cI cB cZ cQ Am) (hk_k0 : xk k0 = 4) (X : gX D (xcell g cI cB cZ cQ) xord g S s H locs) (hl : lv_has ls 1 [(0, .ref (g k0))]) (hF : fX4_clear_b0 N k0 S = some o) : W p l e (rmd 0) s m args below meth c H locs 0 0 (gE below args s D (xtys cI cB cZ cQ) (xcell g cI cB cZ cQ) xord g none o.2) (F0 m 0 ls []) := by
  unfold fX4_clear_b0 at hF
  refine lv_aload_n C.1.1 C.1.2.1 dX4_clear_0 rfl (lv_at hl 0 rfl) ?_
  refine lv_iconst (v := 0) C.1.1 C.1.2.1 dX4_clear_1 (by decide) ?_
  obtain ⟨S1, eS1, hF⟩ := lt_some hF
  refine xp_X4_18 C O X (k := k0) hk_k0 eS1 dX4_clear_2 (fun H locs X => ?_)
  cases hF
  exact g_vret C X dX4_clear_5
noncomputable def fX4_clear (N : Nat) (k0 : Nat) (S : gS) : Option (Int32 × gS) := fX4_clear_b0 N k0 S
theorem kX4_clear {l : Launch} {D : va_G} {g : Nat → Nat} {cI cB cZ cQ : ClassId} {Am : (Nat → Prop) → State → Heap → Prop} (O : xO g cI cB cZ cQ Am) (P : gAm Am) (N : Nat) (k0 : Nat) (hk_k0 : xk k0 = 4) (S : gS) (o : Int32 × gS) (hF : fX4_clear N k0 S = some o) : gM l yX4_clear cX4_clear 1 none 0 D (xtys cI cB cZ cQ) (xcell g cI cB cZ cQ) xord g Am [.ref (g k0)] S none o.2 :=
  gM_of O.1 P (by decide) (Nat.le_of_ble_eq_true rfl) (fun p e s m args below meth c ls C X hl => bX4_clear_0 C O hk_k0 X (lv_sub hl [0] rfl) hF)
-- X4.isTold
noncomputable def fX4_isTold_b12 (N : Nat) (t0 : Int32) (S : gS) : Option (Int32 × gS) := chk (zb t0) (some (t0, S))
theorem bX4_isTold_12 {N : Nat} {t0 : Int32} {S : gS} {H : Heap} {locs : List Loc} {ls : Array Slot} {o : Int32 × gS} (C : gC p s m args meth c cX4_isTold 1 RX4 ((some .boolean)) D (xtys cI cB cZ cQ) xord g Am) (O : xO g cI cB cZ cQ Am) (X : gX D (xcell g cI cB cZ cQ) xord g S s H locs) (hl : lv_has ls 1 []) (hF : fX4_isTold_b12 N t0 S = some o) : W p l e (rmd 0) s m args below meth c H locs 0 0 (gE below args s D (xtys cI cB cZ cQ) (xcell g cI cB cZ cQ) xord g (some (.int o.1)) o.2) (F0 m 12 ls [.int t0]) := by
  unfold fX4_isTold_b12 at hF
  obtain ⟨h_1, hF⟩ := chk_some hF
  cases hF
  exact g_zret C X h_1 dX4_isTold_12
noncomputable def fX4_isTold_b11 (N : Nat) (S : gS) : Option (Int32 × gS) := fX4_isTold_b12 N 0 S
theorem bX4_isTold_11 {N : Nat} {S : gS} {H : Heap} {locs : List Loc} {ls : Array Slot} {o : Int32 × gS} (C : gC p s m args meth c cX4_isTold 1 RX4 ((some .boolean)) D (xtys cI cB cZ cQ) xord g Am) (O : xO g cI cB cZ cQ Am) (X : gX D (xcell g cI cB cZ cQ) xord g S s H locs) (hl : lv_has ls 1 []) (hF : fX4_isTold_b11 N S = some o) : W p l e (rmd 0) s m args below meth c H locs 0 0 (gE below args s D (xtys cI cB cZ cQ) (xcell g cI cB cZ cQ) xord g (some (.int o.1)) o.2) (F0 m 11 ls []) := by
  unfold fX4_isTold_b11 at hF
  refine lv_iconst (v := 0) C.1.1 C.1.2.1 dX4_isTold_11 (by decide) ?_
  exact bX4_isTold_12 C O X (lv_sub hl [] rfl) hF
noncomputable def fX4_isTold_b7 (N : Nat) (S : gS) : Option (Int32 × gS) := fX4_isTold_b12 N 1 S
theorem bX4_isTold_7 {N : Nat} {S : gS} {H : Heap} {locs : List Loc} {ls : Array Slot} {o : Int32 × gS} (C : gC p s m args meth c cX4_isTold 1 RX4 ((some .boolean)) D (xtys cI cB cZ cQ) xord g Am) (O : xO g cI cB cZ cQ Am) (X : gX D (xcell g cI cB cZ cQ) xord g S s H locs) (hl : lv_has ls 1 []) (hF : fX4_isTold_b7 N S = some o) : W p l e (rmd 0) s m args below meth c H locs 0 0 (gE below args s D (xtys cI cB cZ cQ) (xcell g cI cB cZ cQ) xord g (some (.int o.1)) o.2) (F0 m 7 ls []) := by
  unfold fX4_isTold_b7 at hF
  refine lv_iconst (v := 1) C.1.1 C.1.2.1 dX4_isTold_7 (by decide) ?_
  refine lv_goto (tgt := 12) C.1.1 C.1.2.1 dX4_isTold_8 (by decide) ?_
  exact bX4_isTold_12 C O X (lv_sub hl [] rfl) hF
noncomputable def fX4_isTold_b0 (N : Nat) (k0 : Nat) (S : gS) : Option (Int32 × gS) := if (S k0 3) ≤ 0 then fX4_isTold_b11 N S else fX4_isTold_b7 N S
theorem bX4_isTold_0 {N : Nat} {k0 : Nat} {S : gS} {H : Heap} {locs : List Loc} {ls : Array Slot} {o : Int32 × gS} (C : gC p s m args meth c cX4_isTold 1 RX4 ((some .boolean)) D (xtys cI cB cZ cQ) xord g Am) (O : xO g cI cB cZ cQ Am) (hk_k0 : xk k0 = 4) (X : gX D (xcell g cI cB cZ cQ) xord g S s H locs) (hl : lv_has ls 1 [(0, .ref (g k0))]) (hF : fX4_isTold_b0 N k0 S = some o) : W p l e (rmd 0) s m args below meth c H locs 0 0 (gE below args s D (xtys cI cB cZ cQ) (xcell g cI cB cZ cQ) xord g (some (.int o.1)) o.2) (F0 m 0 ls []) := by
  unfold fX4_isTold_b0 at hF
  refine lv_aload_n C.1.1 C.1.2.1 dX4_isTold_0 rfl (lv_at hl 0 rfl) ?_
  refine xg_X4_18 C O X (k := k0) hk_k0 dX4_isTold_1 ?_
  refine lv_if_le (tgt := 11) C.1.1 C.1.2.1 dX4_isTold_4 (by decide) (fun h_z => ?_) (fun h_z => ?_)
  · rw [if_pos h_z] at hF
    exact bX4_isTold_11 C O X (lv_sub hl [] rfl) hF
  · rw [if_neg h_z] at hF
    exact bX4_isTold_7 C O X (lv_sub hl [] rfl) hF
noncomputable def fX4_isTold (N : Nat) (k0 : Nat) (S : gS) : Option (Int32 × gS) := fX4_isTold_b0 N k0 S
theorem kX4_isTold {l : Launch} {D : va_G} {g : Nat → Nat} {cI cB cZ cQ : ClassId} {Am : (Nat → Prop) → State → Heap → Prop} (O : xO g cI cB cZ cQ Am) (P : gAm Am) (N : Nat) (k0 : Nat) (hk_k0 : xk k0 = 4) (S : gS) (o : Int32 × gS) (hF : fX4_isTold N k0 S = some o) : gM l yX4_isTold cX4_isTold 1 ((some .boolean)) 0 D (xtys cI cB cZ cQ) (xcell g cI cB cZ cQ) xord g Am [.ref (g k0)] S (some (.int o.1)) o.2 :=
  gM_of O.1 P (by decide) (Nat.le_of_ble_eq_true rfl) (fun p e s m args below meth c ls C X hl => bX4_isTold_0 C O hk_k0 X (lv_sub hl [0] rfl) hF)
-- X4.add
noncomputable def fX4_add_b32 (N : Nat) (S : gS) : Option (Int32 × gS) := some (0, S)
theorem bX4_add_32 {N : Nat} {S : gS} {H : Heap} {locs : List Loc} {ls : Array Slot} {o : Int32 × gS} (C : gC p s m args meth c cX4_add 2 RX4 none D (xtys cI cB cZ cQ) xord g Am) (O : xO g cI cB cZ cQ Am) (X : gX D (xcell g cI cB cZ cQ) xord g S s H locs) (hl : lv_has ls 2 []) (hF : fX4_add_b32 N S = some o) : W p l e (rmd 0) s m args below meth c H locs 0 0 (gE below args s D (xtys cI cB cZ cQ) (xcell g cI cB cZ cQ) xord g none o.2) (F0 m 32 ls []) := by
  unfold fX4_add_b32 at hF
  cases hF
  exact g_vret C X dX4_add_32
noncomputable def fX4_add_b12 (N : Nat) (k0 : Nat) (x1 : Int32) (S : gS) : Option (Int32 × gS) := chk (inb (S k0 3) 700) (lt (sU S (k0 + 1) (Int32.toNatClampNeg (S k0 3)) x1) fun S1 => (lt (sU S1 k0 3 (((S1 k0 3) + 1 : Int32))) fun S2 => (fX4_add_b32 N S2)))
theorem bX4_add_12 {N : Nat} {k0 : Nat} {x1 : Int32} {S : gS} {H : Heap} {locs : List Loc} {ls : Array Slot} {o : Int32 × gS} (C : gC p s m args meth c cX4_add 2 RX4 none D (xtys cI cB cZ cQ) xord g Am) (O : xO g cI cB cZ cQ Am) (hk_k0 : xk k0 = 4) (X : gX D (xcell g cI cB cZ cQ) xord g S s H locs) (hl : lv_has ls 2 [(0, .ref (g k0)), (1, .int x1)]) (hF : fX4_add_b12 N k0 x1 S = some o) : W p l e (rmd 0) s m args below meth c H locs 0 0 (gE below args s D (xtys cI cB cZ cQ) (xcell g cI cB cZ cQ) xord g none o.2) (F0 m 12 ls []) := by
  unfold fX4_add_b12 at hF
  refine lv_aload_n C.1.1 C.1.2.1 dX4_add_12 rfl (lv_at hl 0 rfl) ?_
  refine xg_X4_9 C O X (k := k0) hk_k0 (j := k0 + 1) rfl dX4_add_13 ?_
  refine lv_aload_n C.1.1 C.1.2.1 dX4_add_16 rfl (lv_at hl 0 rfl) ?_
  refine xg_X4_18 C O X (k := k0) hk_k0 dX4_add_17 ?_
  refine lv_iload_n C.1.1 C.1.2.1 dX4_add_20 rfl (lv_at hl 1 rfl) ?_
  obtain ⟨h_1, hF⟩ := chk_some hF
  obtain ⟨S1, eS1, hF⟩ := lt_some hF
  refine x_wI C O X (k := k0 + 1) (xs_4_0 hk_k0).1 (n := 700) (xs_4_0 hk_k0).2  (inb_vp h_1) rfl eS1 dX4_add_21 (fun H locs X => ?_)
  refine lv_aload_n C.1.1 C.1.2.1 dX4_add_22 rfl (lv_at hl 0 rfl) ?_
  refine lv_dup C.1.1 C.1.2.1 dX4_add_23 rfl ?_
  refine xg_X4_18 C O X (k := k0) hk_k0 dX4_add_24 ?_
  refine lv_iconst (v := 1) C.1.1 C.1.2.1 dX4_add_27 (by decide) ?_
  refine lv_iadd C.1.1 C.1.2.1 dX4_add_28 ?_
  obtain ⟨S2, eS2, hF⟩ := lt_some hF
  refine xp_X4_18 C O X (k := k0) hk_k0 eS2 dX4_add_29 (fun H locs X => ?_)
  exact bX4_add_32 C O X (lv_sub hl [] rfl) hF
noncomputable def fX4_add_b0 (N : Nat) (k0 : Nat) (x1 : Int32) (S : gS) : Option (Int32 × gS) := if 700 ≤ (S k0 3) then fX4_add_b32 N S else fX4_add_b12 N k0 x1 S
theorem bX4_add_0 {N : Nat} {k0 : Nat} {x1 : Int32} {S : gS} {H : Heap} {locs : List Loc} {ls : Array Slot} {o : Int32 × gS} (C : gC p s m args meth c cX4_add 2 RX4 none D (xtys cI cB cZ cQ) xord g Am) (O : xO g cI cB cZ cQ Am) (hk_k0 : xk k0 = 4) (X : gX D (xcell g cI cB cZ cQ) xord g S s H locs) (hl : lv_has ls 2 [(0, .ref (g k0)), (1, .int x1)]) (hF : fX4_add_b0 N k0 x1 S = some o) : W p l e (rmd 0) s m args below meth c H locs 0 0 (gE below args s D (xtys cI cB cZ cQ) (xcell g cI cB cZ cQ) xord g none o.2) (F0 m 0 ls []) := by
  unfold fX4_add_b0 at hF
  refine lv_aload_n C.1.1 C.1.2.1 dX4_add_0 rfl (lv_at hl 0 rfl) ?_
  refine xg_X4_18 C O X (k := k0) hk_k0 dX4_add_1 ?_
  refine lv_aload_n C.1.1 C.1.2.1 dX4_add_4 rfl (lv_at hl 0 rfl) ?_
  refine xg_X4_9 C O X (k := k0) hk_k0 (j := k0 + 1) rfl dX4_add_5 ?_
  refine x_lI C X (k := k0 + 1) (xs_4_0 hk_k0).1 (n := 700) (xs_4_0 hk_k0).2 (x := 700) (by decide) dX4_add_8 ?_
  refine lv_icmp_ge (tgt := 32) C.1.1 C.1.2.1 dX4_add_9 (by decide) (fun h_z => ?_) (fun h_z => ?_)
  · rw [if_pos h_z] at hF
    exact bX4_add_32 C O X (lv_sub hl [] rfl) hF
  · rw [if_neg h_z] at hF
    exact bX4_add_12 C O (hk_k0 : xk k0 = 4) X (lv_sub hl [0, 1] rfl) hF
noncomputable def fX4_add (N : Nat) (k0 : Nat) (x1 : Int32) (S : gS) : Option (Int32 × gS) := fX4_add_b0 N k0 x1 S
theorem kX4_add {l : Launch} {D : va_G} {g : Nat → Nat} {cI cB cZ cQ : ClassId} {Am : (Nat → Prop) → State → Heap → Prop} (O : xO g cI cB cZ cQ Am) (P : gAm Am) (N : Nat) (k0 : Nat) (x1 : Int32) (hk_k0 : xk k0 = 4) (S : gS) (o : Int32 × gS) (hF : fX4_add N k0 x1 S = some o) : gM l yX4_add cX4_add 2 none 0 D (xtys cI cB cZ cQ) (xcell g cI cB cZ cQ) xord g Am [.ref (g k0), .int x1] S none o.2 :=
  gM_of O.1 P (by decide) (Nat.le_of_ble_eq_true rfl) (fun p e s m args below meth c ls C X hl => bX4_add_0 C O hk_k0 X (lv_sub hl [0, 1] rfl) hF)
-- X4.minds
noncomputable def fX4_minds_b28 (N : Nat) (S : gS) : Option (Int32 × gS) := some (0, S)
theorem bX4_minds_28 {N : Nat} {S : gS} {H : Heap} {locs : List Loc} {ls : Array Slot} {o : Int32 × gS} (C : gC p s m args meth c cX4_minds 3 RX4 ((some .boolean)) D (xtys cI cB cZ cQ) xord g Am) (O : xO g cI cB cZ cQ Am) (X : gX D (xcell g cI cB cZ cQ) xord g S s H locs) (hl : lv_has ls 3 []) (hF : fX4_minds_b28 N S = some o) : W p l e (rmd 0) s m args below meth c H locs 0 0 (gE below args s D (xtys cI cB cZ cQ) (xcell g cI cB cZ cQ) xord g (some (.int o.1)) o.2) (F0 m 28 ls []) := by
  unfold fX4_minds_b28 at hF
  refine lv_iconst (v := 0) C.1.1 C.1.2.1 dX4_minds_28 (by decide) ?_
  cases hF
  exact g_zret (x := 0) C X (by decide) dX4_minds_29
noncomputable def fX4_minds_b22 (N : Nat) (r2 : Nat → Int32 → Int32 → gS → Option (Int32 × gS)) (k0 : Nat) (x1 : Int32) (x2 : Int32) (S : gS) : Option (Int32 × gS) := r2 k0 x1 ((x2 + 1 : Int32)) S
theorem bX4_minds_22 {N : Nat} {r2 : Nat → Int32 → Int32 → gS → Option (Int32 × gS)} {k0 : Nat} {x1 : Int32} {x2 : Int32} {S : gS} {H : Heap} {locs : List Loc} {ls : Array Slot} {o : Int32 × gS} (C : gC p s m args meth c cX4_minds 3 RX4 ((some .boolean)) D (xtys cI cB cZ cQ) xord g Am) (O : xO g cI cB cZ cQ Am) (K2 : ∀ (k0 : Nat) (x1 : Int32) (x2 : Int32) (hk_k0 : xk k0 = 4) (S : gS) (H : Heap) (locs : List Loc) (ls : Array Slot), gX D (xcell g cI cB cZ cQ) xord g S s H locs → lv_has ls 3 [(0, .ref (g k0)), (1, .int x1), (2, .int x2)] → r2 k0 x1 x2 S = some o → W p l e (rmd 0) s m args below meth c H locs 0 0 (gE below args s D (xtys cI cB cZ cQ) (xcell g cI cB cZ cQ) xord g (some (.int o.1)) o.2) (F0 m 2 ls [])) (hk_k0 : xk k0 = 4) (X : gX D (xcell g cI cB cZ cQ) xord g S s H locs) (hl : lv_has ls 3 [(0, .ref (g k0)), (1, .int x1), (2, .int x2)]) (hF : fX4_minds_b22 N r2 k0 x1 x2 S = some o) : W p l e (rmd 0) s m args below meth c H locs 0 0 (gE below args s D (xtys cI cB cZ cQ) (xcell g cI cB cZ cQ) xord g (some (.int o.1)) o.2) (F0 m 22 ls []) := by
  unfold fX4_minds_b22 at hF
  refine lv_iinc (v := (x2 + 1 : Int32)) (lv' := [(2, .int ((x2 + 1 : Int32))), (0, .ref (g k0)), (1, .int x1)]) C.1.1 C.1.2.1 dX4_minds_22 hl (k := 2) rfl rfl (by decide) rfl (fun ls hl => ?_)
  refine lv_goto (tgt := 2) C.1.1 C.1.2.1 dX4_minds_25 (by decide) ?_
  exact K2 _ _ _ (hk_k0 : xk k0 = 4) _ _ _ _ X (lv_sub hl [1, 2, 0] rfl) hF
noncomputable def fX4_minds_b20 (N : Nat) (S : gS) : Option (Int32 × gS) := some (1, S)
theorem bX4_minds_20 {N : Nat} {S : gS} {H : Heap} {locs : List Loc} {ls : Array Slot} {o : Int32 × gS} (C : gC p s m args meth c cX4_minds 3 RX4 ((some .boolean)) D (xtys cI cB cZ cQ) xord g Am) (O : xO g cI cB cZ cQ Am) (X : gX D (xcell g cI cB cZ cQ) xord g S s H locs) (hl : lv_has ls 3 []) (hF : fX4_minds_b20 N S = some o) : W p l e (rmd 0) s m args below meth c H locs 0 0 (gE below args s D (xtys cI cB cZ cQ) (xcell g cI cB cZ cQ) xord g (some (.int o.1)) o.2) (F0 m 20 ls []) := by
  unfold fX4_minds_b20 at hF
  refine lv_iconst (v := 1) C.1.1 C.1.2.1 dX4_minds_20 (by decide) ?_
  cases hF
  exact g_zret (x := 1) C X (by decide) dX4_minds_21
noncomputable def fX4_minds_b10 (N : Nat) (r2 : Nat → Int32 → Int32 → gS → Option (Int32 × gS)) (k0 : Nat) (x1 : Int32) (x2 : Int32) (S : gS) : Option (Int32 × gS) := chk (inb x2 700) (if (S (k0 + 1) (Int32.toNatClampNeg x2)) = x1 then fX4_minds_b20 N S else fX4_minds_b22 N r2 k0 x1 x2 S)
theorem bX4_minds_10 {N : Nat} {r2 : Nat → Int32 → Int32 → gS → Option (Int32 × gS)} {k0 : Nat} {x1 : Int32} {x2 : Int32} {S : gS} {H : Heap} {locs : List Loc} {ls : Array Slot} {o : Int32 × gS} (C : gC p s m args meth c cX4_minds 3 RX4 ((some .boolean)) D (xtys cI cB cZ cQ) xord g Am) (O : xO g cI cB cZ cQ Am) (K2 : ∀ (k0 : Nat) (x1 : Int32) (x2 : Int32) (hk_k0 : xk k0 = 4) (S : gS) (H : Heap) (locs : List Loc) (ls : Array Slot), gX D (xcell g cI cB cZ cQ) xord g S s H locs → lv_has ls 3 [(0, .ref (g k0)), (1, .int x1), (2, .int x2)] → r2 k0 x1 x2 S = some o → W p l e (rmd 0) s m args below meth c H locs 0 0 (gE below args s D (xtys cI cB cZ cQ) (xcell g cI cB cZ cQ) xord g (some (.int o.1)) o.2) (F0 m 2 ls [])) (hk_k0 : xk k0 = 4) (X : gX D (xcell g cI cB cZ cQ) xord g S s H locs) (hl : lv_has ls 3 [(0, .ref (g k0)), (1, .int x1), (2, .int x2)]) (hF : fX4_minds_b10 N r2 k0 x1 x2 S = some o) : W p l e (rmd 0) s m args below meth c H locs 0 0 (gE below args s D (xtys cI cB cZ cQ) (xcell g cI cB cZ cQ) xord g (some (.int o.1)) o.2) (F0 m 10 ls []) := by
  unfold fX4_minds_b10 at hF
  refine lv_aload_n C.1.1 C.1.2.1 dX4_minds_10 rfl (lv_at hl 0 rfl) ?_
  refine xg_X4_9 C O X (k := k0) hk_k0 (j := k0 + 1) rfl dX4_minds_11 ?_
  refine lv_iload_n C.1.1 C.1.2.1 dX4_minds_14 rfl (lv_at hl 2 rfl) ?_
  obtain ⟨h_1, hF⟩ := chk_some hF
  refine x_rI C X (k := k0 + 1) (xs_4_0 hk_k0).1 (n := 700) (xs_4_0 hk_k0).2  (inb_vp h_1) rfl dX4_minds_15 ?_
  refine lv_iload_n C.1.1 C.1.2.1 dX4_minds_16 rfl (lv_at hl 1 rfl) ?_
  refine lv_icmp_ne (tgt := 22) C.1.1 C.1.2.1 dX4_minds_17 (by decide) (fun h_z => ?_) (fun h_z => ?_)
  · rw [if_neg h_z] at hF
    exact bX4_minds_22 C O K2 (hk_k0 : xk k0 = 4) X (lv_sub hl [0, 1, 2] rfl) hF
  · rw [if_pos h_z] at hF
    exact bX4_minds_20 C O X (lv_sub hl [] rfl) hF
noncomputable def fX4_minds_b2 (N : Nat) (r2 : Nat → Int32 → Int32 → gS → Option (Int32 × gS)) (k0 : Nat) (x1 : Int32) (x2 : Int32) (S : gS) : Option (Int32 × gS) := if (S k0 3) ≤ x2 then fX4_minds_b28 N S else fX4_minds_b10 N r2 k0 x1 x2 S
theorem bX4_minds_2 {N : Nat} {r2 : Nat → Int32 → Int32 → gS → Option (Int32 × gS)} {k0 : Nat} {x1 : Int32} {x2 : Int32} {S : gS} {H : Heap} {locs : List Loc} {ls : Array Slot} {o : Int32 × gS} (C : gC p s m args meth c cX4_minds 3 RX4 ((some .boolean)) D (xtys cI cB cZ cQ) xord g Am) (O : xO g cI cB cZ cQ Am) (K2 : ∀ (k0 : Nat) (x1 : Int32) (x2 : Int32) (hk_k0 : xk k0 = 4) (S : gS) (H : Heap) (locs : List Loc) (ls : Array Slot), gX D (xcell g cI cB cZ cQ) xord g S s H locs → lv_has ls 3 [(0, .ref (g k0)), (1, .int x1), (2, .int x2)] → r2 k0 x1 x2 S = some o → W p l e (rmd 0) s m args below meth c H locs 0 0 (gE below args s D (xtys cI cB cZ cQ) (xcell g cI cB cZ cQ) xord g (some (.int o.1)) o.2) (F0 m 2 ls [])) (hk_k0 : xk k0 = 4) (X : gX D (xcell g cI cB cZ cQ) xord g S s H locs) (hl : lv_has ls 3 [(0, .ref (g k0)), (1, .int x1), (2, .int x2)]) (hF : fX4_minds_b2 N r2 k0 x1 x2 S = some o) : W p l e (rmd 0) s m args below meth c H locs 0 0 (gE below args s D (xtys cI cB cZ cQ) (xcell g cI cB cZ cQ) xord g (some (.int o.1)) o.2) (F0 m 2 ls []) := by
  unfold fX4_minds_b2 at hF
  refine lv_iload_n C.1.1 C.1.2.1 dX4_minds_2 rfl (lv_at hl 2 rfl) ?_
  refine lv_aload_n C.1.1 C.1.2.1 dX4_minds_3 rfl (lv_at hl 0 rfl) ?_
  refine xg_X4_18 C O X (k := k0) hk_k0 dX4_minds_4 ?_
  refine lv_icmp_ge (tgt := 28) C.1.1 C.1.2.1 dX4_minds_7 (by decide) (fun h_z => ?_) (fun h_z => ?_)
  · rw [if_pos h_z] at hF
    exact bX4_minds_28 C O X (lv_sub hl [] rfl) hF
  · rw [if_neg h_z] at hF
    exact bX4_minds_10 C O K2 (hk_k0 : xk k0 = 4) X (lv_sub hl [0, 1, 2] rfl) hF
noncomputable def fX4_minds_h2 (N : Nat) : Nat → Nat → Int32 → Int32 → gS → Option (Int32 × gS)
  | 0, _, _, _, _ => none
  | n + 1, k0, x1, x2, S => fX4_minds_b2 N (fX4_minds_h2 N n) k0 x1 x2 S
theorem hX4_minds_2 {N : Nat} {o : Int32 × gS} (C : gC p s m args meth c cX4_minds 3 RX4 ((some .boolean)) D (xtys cI cB cZ cQ) xord g Am) (O : xO g cI cB cZ cQ Am) : ∀ (n : Nat) (k0 : Nat) (x1 : Int32) (x2 : Int32) (hk_k0 : xk k0 = 4) (S : gS) (H : Heap) (locs : List Loc) (ls : Array Slot), gX D (xcell g cI cB cZ cQ) xord g S s H locs → lv_has ls 3 [(0, .ref (g k0)), (1, .int x1), (2, .int x2)] → fX4_minds_h2 N n k0 x1 x2 S = some o → W p l e (rmd 0) s m args below meth c H locs 0 0 (gE below args s D (xtys cI cB cZ cQ) (xcell g cI cB cZ cQ) xord g (some (.int o.1)) o.2) (F0 m 2 ls []) := by
  intro n
  induction n with
  | zero =>
    intro k0 x1 x2 hk_k0 S H locs ls X hl hF
    exact absurd (show (none : Option (Int32 × gS)) = some o from hF) (by simp)
  | succ n ih =>
    intro k0 x1 x2 hk_k0 S H locs ls X hl hF
    have hF : fX4_minds_b2 N (fX4_minds_h2 N n) k0 x1 x2 S = some o := hF
    exact bX4_minds_2 C O ih hk_k0 X hl hF
noncomputable def fX4_minds_b0 (N : Nat) (k0 : Nat) (x1 : Int32) (S : gS) : Option (Int32 × gS) := fX4_minds_h2 N N k0 x1 0 S
theorem bX4_minds_0 {N : Nat} {k0 : Nat} {x1 : Int32} {S : gS} {H : Heap} {locs : List Loc} {ls : Array Slot} {o : Int32 × gS} (C : gC p s m args meth c cX4_minds 3 RX4 ((some .boolean)) D (xtys cI cB cZ cQ) xord g Am) (O : xO g cI cB cZ cQ Am) (hk_k0 : xk k0 = 4) (X : gX D (xcell g cI cB cZ cQ) xord g S s H locs) (hl : lv_has ls 3 [(0, .ref (g k0)), (1, .int x1)]) (hF : fX4_minds_b0 N k0 x1 S = some o) : W p l e (rmd 0) s m args below meth c H locs 0 0 (gE below args s D (xtys cI cB cZ cQ) (xcell g cI cB cZ cQ) xord g (some (.int o.1)) o.2) (F0 m 0 ls []) := by
  unfold fX4_minds_b0 at hF
  refine lv_iconst (v := 0) C.1.1 C.1.2.1 dX4_minds_0 (by decide) ?_
  refine lv_istore_n (lv' := [(2, .int 0), (0, .ref (g k0)), (1, .int x1)]) C.1.1 C.1.2.1 dX4_minds_1 rfl hl (by decide) rfl (fun ls hl => ?_)
  exact hX4_minds_2 C O N _ _ _ (hk_k0 : xk k0 = 4) _ _ _ _ X (lv_sub hl [1, 2, 0] rfl) hF
noncomputable def fX4_minds (N : Nat) (k0 : Nat) (x1 : Int32) (S : gS) : Option (Int32 × gS) := fX4_minds_b0 N k0 x1 S
theorem kX4_minds {l : Launch} {D : va_G} {g : Nat → Nat} {cI cB cZ cQ : ClassId} {Am : (Nat → Prop) → State → Heap → Prop} (O : xO g cI cB cZ cQ Am) (P : gAm Am) (N : Nat) (k0 : Nat) (x1 : Int32) (hk_k0 : xk k0 = 4) (S : gS) (o : Int32 × gS) (hF : fX4_minds N k0 x1 S = some o) : gM l yX4_minds cX4_minds 3 ((some .boolean)) 0 D (xtys cI cB cZ cQ) (xcell g cI cB cZ cQ) xord g Am [.ref (g k0), .int x1] S (some (.int o.1)) o.2 :=
  gM_of O.1 P (by decide) (Nat.le_of_ble_eq_true rfl) (fun p e s m args below meth c ls C X hl => bX4_minds_0 C O hk_k0 X (lv_sub hl [0, 1] rfl) hF)
-- X4.join
noncomputable def fX4_join_b117 (N : Nat) (t0 : Int32) (S : gS) : Option (Int32 × gS) := some (t0, S)
theorem bX4_join_117 {N : Nat} {t0 : Int32} {S : gS} {H : Heap} {locs : List Loc} {ls : Array Slot} {o : Int32 × gS} (C : gC p s m args meth c cX4_join 3 RX4 ((some .int)) D (xtys cI cB cZ cQ) xord g Am) (O : xO g cI cB cZ cQ Am) (X : gX D (xcell g cI cB cZ cQ) xord g S s H locs) (hl : lv_has ls 3 []) (hF : fX4_join_b117 N t0 S = some o) : W p l e (rmd 0) s m args below meth c H locs 0 0 (gE below args s D (xtys cI cB cZ cQ) (xcell g cI cB cZ cQ) xord g (some (.int o.1)) o.2) (F0 m 117 ls [.int t0]) := by
  unfold fX4_join_b117 at hF
  cases hF
  exact g_iret C X dX4_join_117
noncomputable def fX4_join_b114 (N : Nat) (x1 : Int32) (x2 : Int32) (S : gS) : Option (Int32 × gS) := chk (nz x2) (fX4_join_b117 N ((x1 / x2 : Int32)) S)
theorem bX4_join_114 {N : Nat} {x1 : Int32} {x2 : Int32} {S : gS} {H : Heap} {locs : List Loc} {ls : Array Slot} {o : Int32 × gS} (C : gC p s m args meth c cX4_join 3 RX4 ((some .int)) D (xtys cI cB cZ cQ) xord g Am) (O : xO g cI cB cZ cQ Am) (X : gX D (xcell g cI cB cZ cQ) xord g S s H locs) (hl : lv_has ls 3 [(1, .int x1), (2, .int x2)]) (hF : fX4_join_b114 N x1 x2 S = some o) : W p l e (rmd 0) s m args below meth c H locs 0 0 (gE below args s D (xtys cI cB cZ cQ) (xcell g cI cB cZ cQ) xord g (some (.int o.1)) o.2) (F0 m 114 ls []) := by
  unfold fX4_join_b114 at hF
  refine lv_iload_n C.1.1 C.1.2.1 dX4_join_114 rfl (lv_at hl 0 rfl) ?_
  refine lv_iload_n C.1.1 C.1.2.1 dX4_join_115 rfl (lv_at hl 1 rfl) ?_
  obtain ⟨h_1, hF⟩ := chk_some hF
  refine lv_idiv C.1.1 C.1.2.1 dX4_join_116 (nz_ne h_1) ?_
  exact bX4_join_117 C O X (lv_sub hl [] rfl) hF
noncomputable def fX4_join_b110 (N : Nat) (S : gS) : Option (Int32 × gS) := fX4_join_b117 N 0 S
theorem bX4_join_110 {N : Nat} {S : gS} {H : Heap} {locs : List Loc} {ls : Array Slot} {o : Int32 × gS} (C : gC p s m args meth c cX4_join 3 RX4 ((some .int)) D (xtys cI cB cZ cQ) xord g Am) (O : xO g cI cB cZ cQ Am) (X : gX D (xcell g cI cB cZ cQ) xord g S s H locs) (hl : lv_has ls 3 []) (hF : fX4_join_b110 N S = some o) : W p l e (rmd 0) s m args below meth c H locs 0 0 (gE below args s D (xtys cI cB cZ cQ) (xcell g cI cB cZ cQ) xord g (some (.int o.1)) o.2) (F0 m 110 ls []) := by
  unfold fX4_join_b110 at hF
  refine lv_iconst (v := 0) C.1.1 C.1.2.1 dX4_join_110 (by decide) ?_
  refine lv_goto (tgt := 117) C.1.1 C.1.2.1 dX4_join_111 (by decide) ?_
  exact bX4_join_117 C O X (lv_sub hl [] rfl) hF
noncomputable def fX4_join_b106 (N : Nat) (x1 : Int32) (x2 : Int32) (S : gS) : Option (Int32 × gS) := if x2 = 0 then fX4_join_b110 N S else fX4_join_b114 N x1 x2 S
theorem bX4_join_106 {N : Nat} {x1 : Int32} {x2 : Int32} {S : gS} {H : Heap} {locs : List Loc} {ls : Array Slot} {o : Int32 × gS} (C : gC p s m args meth c cX4_join 3 RX4 ((some .int)) D (xtys cI cB cZ cQ) xord g Am) (O : xO g cI cB cZ cQ Am) (X : gX D (xcell g cI cB cZ cQ) xord g S s H locs) (hl : lv_has ls 3 [(1, .int x1), (2, .int x2)]) (hF : fX4_join_b106 N x1 x2 S = some o) : W p l e (rmd 0) s m args below meth c H locs 0 0 (gE below args s D (xtys cI cB cZ cQ) (xcell g cI cB cZ cQ) xord g (some (.int o.1)) o.2) (F0 m 106 ls []) := by
  unfold fX4_join_b106 at hF
  refine lv_iload_n C.1.1 C.1.2.1 dX4_join_106 rfl (lv_at hl 1 rfl) ?_
  refine lv_if_ne (tgt := 114) C.1.1 C.1.2.1 dX4_join_107 (by decide) (fun h_z => ?_) (fun h_z => ?_)
  · rw [if_neg h_z] at hF
    exact bX4_join_114 C O X (lv_sub hl [0, 1] rfl) hF
  · rw [if_pos h_z] at hF
    exact bX4_join_110 C O X (lv_sub hl [] rfl) hF
noncomputable def fX4_join_b102 (N : Nat) (x1 : Int32) (x2 : Int32) (S : gS) : Option (Int32 × gS) := some ((x1 * x2 : Int32), S)
theorem bX4_join_102 {N : Nat} {x1 : Int32} {x2 : Int32} {S : gS} {H : Heap} {locs : List Loc} {ls : Array Slot} {o : Int32 × gS} (C : gC p s m args meth c cX4_join 3 RX4 ((some .int)) D (xtys cI cB cZ cQ) xord g Am) (O : xO g cI cB cZ cQ Am) (X : gX D (xcell g cI cB cZ cQ) xord g S s H locs) (hl : lv_has ls 3 [(1, .int x1), (2, .int x2)]) (hF : fX4_join_b102 N x1 x2 S = some o) : W p l e (rmd 0) s m args below meth c H locs 0 0 (gE below args s D (xtys cI cB cZ cQ) (xcell g cI cB cZ cQ) xord g (some (.int o.1)) o.2) (F0 m 102 ls []) := by
  unfold fX4_join_b102 at hF
  refine lv_iload_n C.1.1 C.1.2.1 dX4_join_102 rfl (lv_at hl 0 rfl) ?_
  refine lv_iload_n C.1.1 C.1.2.1 dX4_join_103 rfl (lv_at hl 1 rfl) ?_
  refine lv_imul C.1.1 C.1.2.1 dX4_join_104 ?_
  cases hF
  exact g_iret C X dX4_join_105
noncomputable def fX4_join_b98 (N : Nat) (x1 : Int32) (x2 : Int32) (S : gS) : Option (Int32 × gS) := some ((x1 - x2 : Int32), S)
theorem bX4_join_98 {N : Nat} {x1 : Int32} {x2 : Int32} {S : gS} {H : Heap} {locs : List Loc} {ls : Array Slot} {o : Int32 × gS} (C : gC p s m args meth c cX4_join 3 RX4 ((some .int)) D (xtys cI cB cZ cQ) xord g Am) (O : xO g cI cB cZ cQ Am) (X : gX D (xcell g cI cB cZ cQ) xord g S s H locs) (hl : lv_has ls 3 [(1, .int x1), (2, .int x2)]) (hF : fX4_join_b98 N x1 x2 S = some o) : W p l e (rmd 0) s m args below meth c H locs 0 0 (gE below args s D (xtys cI cB cZ cQ) (xcell g cI cB cZ cQ) xord g (some (.int o.1)) o.2) (F0 m 98 ls []) := by
  unfold fX4_join_b98 at hF
  refine lv_iload_n C.1.1 C.1.2.1 dX4_join_98 rfl (lv_at hl 0 rfl) ?_
  refine lv_iload_n C.1.1 C.1.2.1 dX4_join_99 rfl (lv_at hl 1 rfl) ?_
  refine lv_isub C.1.1 C.1.2.1 dX4_join_100 ?_
  cases hF
  exact g_iret C X dX4_join_101
noncomputable def fX4_join_b94 (N : Nat) (x1 : Int32) (x2 : Int32) (S : gS) : Option (Int32 × gS) := some ((x1 + x2 : Int32), S)
theorem bX4_join_94 {N : Nat} {x1 : Int32} {x2 : Int32} {S : gS} {H : Heap} {locs : List Loc} {ls : Array Slot} {o : Int32 × gS} (C : gC p s m args meth c cX4_join 3 RX4 ((some .int)) D (xtys cI cB cZ cQ) xord g Am) (O : xO g cI cB cZ cQ Am) (X : gX D (xcell g cI cB cZ cQ) xord g S s H locs) (hl : lv_has ls 3 [(1, .int x1), (2, .int x2)]) (hF : fX4_join_b94 N x1 x2 S = some o) : W p l e (rmd 0) s m args below meth c H locs 0 0 (gE below args s D (xtys cI cB cZ cQ) (xcell g cI cB cZ cQ) xord g (some (.int o.1)) o.2) (F0 m 94 ls []) := by
  unfold fX4_join_b94 at hF
  refine lv_iload_n C.1.1 C.1.2.1 dX4_join_94 rfl (lv_at hl 0 rfl) ?_
  refine lv_iload_n C.1.1 C.1.2.1 dX4_join_95 rfl (lv_at hl 1 rfl) ?_
  refine lv_iadd C.1.1 C.1.2.1 dX4_join_96 ?_
  cases hF
  exact g_iret C X dX4_join_97
noncomputable def fX4_join_b93 (N : Nat) (t0 : Int32) (S : gS) : Option (Int32 × gS) := some (t0, S)
theorem bX4_join_93 {N : Nat} {t0 : Int32} {S : gS} {H : Heap} {locs : List Loc} {ls : Array Slot} {o : Int32 × gS} (C : gC p s m args meth c cX4_join 3 RX4 ((some .int)) D (xtys cI cB cZ cQ) xord g Am) (O : xO g cI cB cZ cQ Am) (X : gX D (xcell g cI cB cZ cQ) xord g S s H locs) (hl : lv_has ls 3 []) (hF : fX4_join_b93 N t0 S = some o) : W p l e (rmd 0) s m args below meth c H locs 0 0 (gE below args s D (xtys cI cB cZ cQ) (xcell g cI cB cZ cQ) xord g (some (.int o.1)) o.2) (F0 m 93 ls [.int t0]) := by
  unfold fX4_join_b93 at hF
  cases hF
  exact g_iret C X dX4_join_93
noncomputable def fX4_join_b92 (N : Nat) (S : gS) : Option (Int32 × gS) := fX4_join_b93 N 0 S
theorem bX4_join_92 {N : Nat} {S : gS} {H : Heap} {locs : List Loc} {ls : Array Slot} {o : Int32 × gS} (C : gC p s m args meth c cX4_join 3 RX4 ((some .int)) D (xtys cI cB cZ cQ) xord g Am) (O : xO g cI cB cZ cQ Am) (X : gX D (xcell g cI cB cZ cQ) xord g S s H locs) (hl : lv_has ls 3 []) (hF : fX4_join_b92 N S = some o) : W p l e (rmd 0) s m args below meth c H locs 0 0 (gE below args s D (xtys cI cB cZ cQ) (xcell g cI cB cZ cQ) xord g (some (.int o.1)) o.2) (F0 m 92 ls []) := by
  unfold fX4_join_b92 at hF
  refine lv_iconst (v := 0) C.1.1 C.1.2.1 dX4_join_92 (by decide) ?_
  exact bX4_join_93 C O X (lv_sub hl [] rfl) hF
noncomputable def fX4_join_b88 (N : Nat) (S : gS) : Option (Int32 × gS) := fX4_join_b93 N 1 S
theorem bX4_join_88 {N : Nat} {S : gS} {H : Heap} {locs : List Loc} {ls : Array Slot} {o : Int32 × gS} (C : gC p s m args meth c cX4_join 3 RX4 ((some .int)) D (xtys cI cB cZ cQ) xord g Am) (O : xO g cI cB cZ cQ Am) (X : gX D (xcell g cI cB cZ cQ) xord g S s H locs) (hl : lv_has ls 3 []) (hF : fX4_join_b88 N S = some o) : W p l e (rmd 0) s m args below meth c H locs 0 0 (gE below args s D (xtys cI cB cZ cQ) (xcell g cI cB cZ cQ) xord g (some (.int o.1)) o.2) (F0 m 88 ls []) := by
  unfold fX4_join_b88 at hF
  refine lv_iconst (v := 1) C.1.1 C.1.2.1 dX4_join_88 (by decide) ?_
  refine lv_goto (tgt := 93) C.1.1 C.1.2.1 dX4_join_89 (by decide) ?_
  exact bX4_join_93 C O X (lv_sub hl [] rfl) hF
noncomputable def fX4_join_b83 (N : Nat) (x1 : Int32) (x2 : Int32) (S : gS) : Option (Int32 × gS) := if x1 = x2 then fX4_join_b88 N S else fX4_join_b92 N S
theorem bX4_join_83 {N : Nat} {x1 : Int32} {x2 : Int32} {S : gS} {H : Heap} {locs : List Loc} {ls : Array Slot} {o : Int32 × gS} (C : gC p s m args meth c cX4_join 3 RX4 ((some .int)) D (xtys cI cB cZ cQ) xord g Am) (O : xO g cI cB cZ cQ Am) (X : gX D (xcell g cI cB cZ cQ) xord g S s H locs) (hl : lv_has ls 3 [(1, .int x1), (2, .int x2)]) (hF : fX4_join_b83 N x1 x2 S = some o) : W p l e (rmd 0) s m args below meth c H locs 0 0 (gE below args s D (xtys cI cB cZ cQ) (xcell g cI cB cZ cQ) xord g (some (.int o.1)) o.2) (F0 m 83 ls []) := by
  unfold fX4_join_b83 at hF
  refine lv_iload_n C.1.1 C.1.2.1 dX4_join_83 rfl (lv_at hl 0 rfl) ?_
  refine lv_iload_n C.1.1 C.1.2.1 dX4_join_84 rfl (lv_at hl 1 rfl) ?_
  refine lv_icmp_ne (tgt := 92) C.1.1 C.1.2.1 dX4_join_85 (by decide) (fun h_z => ?_) (fun h_z => ?_)
  · rw [if_neg h_z] at hF
    exact bX4_join_92 C O X (lv_sub hl [] rfl) hF
  · rw [if_pos h_z] at hF
    exact bX4_join_88 C O X (lv_sub hl [] rfl) hF
noncomputable def fX4_join_b82 (N : Nat) (t0 : Int32) (S : gS) : Option (Int32 × gS) := some (t0, S)
theorem bX4_join_82 {N : Nat} {t0 : Int32} {S : gS} {H : Heap} {locs : List Loc} {ls : Array Slot} {o : Int32 × gS} (C : gC p s m args meth c cX4_join 3 RX4 ((some .int)) D (xtys cI cB cZ cQ) xord g Am) (O : xO g cI cB cZ cQ Am) (X : gX D (xcell g cI cB cZ cQ) xord g S s H locs) (hl : lv_has ls 3 []) (hF : fX4_join_b82 N t0 S = some o) : W p l e (rmd 0) s m args below meth c H locs 0 0 (gE below args s D (xtys cI cB cZ cQ) (xcell g cI cB cZ cQ) xord g (some (.int o.1)) o.2) (F0 m 82 ls [.int t0]) := by
  unfold fX4_join_b82 at hF
  cases hF
  exact g_iret C X dX4_join_82
noncomputable def fX4_join_b81 (N : Nat) (S : gS) : Option (Int32 × gS) := fX4_join_b82 N 0 S
theorem bX4_join_81 {N : Nat} {S : gS} {H : Heap} {locs : List Loc} {ls : Array Slot} {o : Int32 × gS} (C : gC p s m args meth c cX4_join 3 RX4 ((some .int)) D (xtys cI cB cZ cQ) xord g Am) (O : xO g cI cB cZ cQ Am) (X : gX D (xcell g cI cB cZ cQ) xord g S s H locs) (hl : lv_has ls 3 []) (hF : fX4_join_b81 N S = some o) : W p l e (rmd 0) s m args below meth c H locs 0 0 (gE below args s D (xtys cI cB cZ cQ) (xcell g cI cB cZ cQ) xord g (some (.int o.1)) o.2) (F0 m 81 ls []) := by
  unfold fX4_join_b81 at hF
  refine lv_iconst (v := 0) C.1.1 C.1.2.1 dX4_join_81 (by decide) ?_
  exact bX4_join_82 C O X (lv_sub hl [] rfl) hF
noncomputable def fX4_join_b77 (N : Nat) (S : gS) : Option (Int32 × gS) := fX4_join_b82 N 1 S
theorem bX4_join_77 {N : Nat} {S : gS} {H : Heap} {locs : List Loc} {ls : Array Slot} {o : Int32 × gS} (C : gC p s m args meth c cX4_join 3 RX4 ((some .int)) D (xtys cI cB cZ cQ) xord g Am) (O : xO g cI cB cZ cQ Am) (X : gX D (xcell g cI cB cZ cQ) xord g S s H locs) (hl : lv_has ls 3 []) (hF : fX4_join_b77 N S = some o) : W p l e (rmd 0) s m args below meth c H locs 0 0 (gE below args s D (xtys cI cB cZ cQ) (xcell g cI cB cZ cQ) xord g (some (.int o.1)) o.2) (F0 m 77 ls []) := by
  unfold fX4_join_b77 at hF
  refine lv_iconst (v := 1) C.1.1 C.1.2.1 dX4_join_77 (by decide) ?_
  refine lv_goto (tgt := 82) C.1.1 C.1.2.1 dX4_join_78 (by decide) ?_
  exact bX4_join_82 C O X (lv_sub hl [] rfl) hF
noncomputable def fX4_join_b72 (N : Nat) (x1 : Int32) (x2 : Int32) (S : gS) : Option (Int32 × gS) := if x2 ≤ x1 then fX4_join_b81 N S else fX4_join_b77 N S
theorem bX4_join_72 {N : Nat} {x1 : Int32} {x2 : Int32} {S : gS} {H : Heap} {locs : List Loc} {ls : Array Slot} {o : Int32 × gS} (C : gC p s m args meth c cX4_join 3 RX4 ((some .int)) D (xtys cI cB cZ cQ) xord g Am) (O : xO g cI cB cZ cQ Am) (X : gX D (xcell g cI cB cZ cQ) xord g S s H locs) (hl : lv_has ls 3 [(1, .int x1), (2, .int x2)]) (hF : fX4_join_b72 N x1 x2 S = some o) : W p l e (rmd 0) s m args below meth c H locs 0 0 (gE below args s D (xtys cI cB cZ cQ) (xcell g cI cB cZ cQ) xord g (some (.int o.1)) o.2) (F0 m 72 ls []) := by
  unfold fX4_join_b72 at hF
  refine lv_iload_n C.1.1 C.1.2.1 dX4_join_72 rfl (lv_at hl 0 rfl) ?_
  refine lv_iload_n C.1.1 C.1.2.1 dX4_join_73 rfl (lv_at hl 1 rfl) ?_
  refine lv_icmp_ge (tgt := 81) C.1.1 C.1.2.1 dX4_join_74 (by decide) (fun h_z => ?_) (fun h_z => ?_)
  · rw [if_pos h_z] at hF
    exact bX4_join_81 C O X (lv_sub hl [] rfl) hF
  · rw [if_neg h_z] at hF
    exact bX4_join_77 C O X (lv_sub hl [] rfl) hF
noncomputable def fX4_join_b71 (N : Nat) (t0 : Int32) (S : gS) : Option (Int32 × gS) := some (t0, S)
theorem bX4_join_71 {N : Nat} {t0 : Int32} {S : gS} {H : Heap} {locs : List Loc} {ls : Array Slot} {o : Int32 × gS} (C : gC p s m args meth c cX4_join 3 RX4 ((some .int)) D (xtys cI cB cZ cQ) xord g Am) (O : xO g cI cB cZ cQ Am) (X : gX D (xcell g cI cB cZ cQ) xord g S s H locs) (hl : lv_has ls 3 []) (hF : fX4_join_b71 N t0 S = some o) : W p l e (rmd 0) s m args below meth c H locs 0 0 (gE below args s D (xtys cI cB cZ cQ) (xcell g cI cB cZ cQ) xord g (some (.int o.1)) o.2) (F0 m 71 ls [.int t0]) := by
  unfold fX4_join_b71 at hF
  cases hF
  exact g_iret C X dX4_join_71
noncomputable def fX4_join_b70 (N : Nat) (S : gS) : Option (Int32 × gS) := fX4_join_b71 N 0 S
theorem bX4_join_70 {N : Nat} {S : gS} {H : Heap} {locs : List Loc} {ls : Array Slot} {o : Int32 × gS} (C : gC p s m args meth c cX4_join 3 RX4 ((some .int)) D (xtys cI cB cZ cQ) xord g Am) (O : xO g cI cB cZ cQ Am) (X : gX D (xcell g cI cB cZ cQ) xord g S s H locs) (hl : lv_has ls 3 []) (hF : fX4_join_b70 N S = some o) : W p l e (rmd 0) s m args below meth c H locs 0 0 (gE below args s D (xtys cI cB cZ cQ) (xcell g cI cB cZ cQ) xord g (some (.int o.1)) o.2) (F0 m 70 ls []) := by
  unfold fX4_join_b70 at hF
  refine lv_iconst (v := 0) C.1.1 C.1.2.1 dX4_join_70 (by decide) ?_
  exact bX4_join_71 C O X (lv_sub hl [] rfl) hF
noncomputable def fX4_join_b66 (N : Nat) (S : gS) : Option (Int32 × gS) := fX4_join_b71 N 1 S
theorem bX4_join_66 {N : Nat} {S : gS} {H : Heap} {locs : List Loc} {ls : Array Slot} {o : Int32 × gS} (C : gC p s m args meth c cX4_join 3 RX4 ((some .int)) D (xtys cI cB cZ cQ) xord g Am) (O : xO g cI cB cZ cQ Am) (X : gX D (xcell g cI cB cZ cQ) xord g S s H locs) (hl : lv_has ls 3 []) (hF : fX4_join_b66 N S = some o) : W p l e (rmd 0) s m args below meth c H locs 0 0 (gE below args s D (xtys cI cB cZ cQ) (xcell g cI cB cZ cQ) xord g (some (.int o.1)) o.2) (F0 m 66 ls []) := by
  unfold fX4_join_b66 at hF
  refine lv_iconst (v := 1) C.1.1 C.1.2.1 dX4_join_66 (by decide) ?_
  refine lv_goto (tgt := 71) C.1.1 C.1.2.1 dX4_join_67 (by decide) ?_
  exact bX4_join_71 C O X (lv_sub hl [] rfl) hF
noncomputable def fX4_join_b62 (N : Nat) (x2 : Int32) (S : gS) : Option (Int32 × gS) := if x2 = 0 then fX4_join_b70 N S else fX4_join_b66 N S
theorem bX4_join_62 {N : Nat} {x2 : Int32} {S : gS} {H : Heap} {locs : List Loc} {ls : Array Slot} {o : Int32 × gS} (C : gC p s m args meth c cX4_join 3 RX4 ((some .int)) D (xtys cI cB cZ cQ) xord g Am) (O : xO g cI cB cZ cQ Am) (X : gX D (xcell g cI cB cZ cQ) xord g S s H locs) (hl : lv_has ls 3 [(2, .int x2)]) (hF : fX4_join_b62 N x2 S = some o) : W p l e (rmd 0) s m args below meth c H locs 0 0 (gE below args s D (xtys cI cB cZ cQ) (xcell g cI cB cZ cQ) xord g (some (.int o.1)) o.2) (F0 m 62 ls []) := by
  unfold fX4_join_b62 at hF
  refine lv_iload_n C.1.1 C.1.2.1 dX4_join_62 rfl (lv_at hl 0 rfl) ?_
  refine lv_if_eq (tgt := 70) C.1.1 C.1.2.1 dX4_join_63 (by decide) (fun h_z => ?_) (fun h_z => ?_)
  · rw [if_pos h_z] at hF
    exact bX4_join_70 C O X (lv_sub hl [] rfl) hF
  · rw [if_neg h_z] at hF
    exact bX4_join_66 C O X (lv_sub hl [] rfl) hF
noncomputable def fX4_join_b58 (N : Nat) (x1 : Int32) (x2 : Int32) (S : gS) : Option (Int32 × gS) := if x1 = 0 then fX4_join_b70 N S else fX4_join_b62 N x2 S
theorem bX4_join_58 {N : Nat} {x1 : Int32} {x2 : Int32} {S : gS} {H : Heap} {locs : List Loc} {ls : Array Slot} {o : Int32 × gS} (C : gC p s m args meth c cX4_join 3 RX4 ((some .int)) D (xtys cI cB cZ cQ) xord g Am) (O : xO g cI cB cZ cQ Am) (X : gX D (xcell g cI cB cZ cQ) xord g S s H locs) (hl : lv_has ls 3 [(1, .int x1), (2, .int x2)]) (hF : fX4_join_b58 N x1 x2 S = some o) : W p l e (rmd 0) s m args below meth c H locs 0 0 (gE below args s D (xtys cI cB cZ cQ) (xcell g cI cB cZ cQ) xord g (some (.int o.1)) o.2) (F0 m 58 ls []) := by
  unfold fX4_join_b58 at hF
  refine lv_iload_n C.1.1 C.1.2.1 dX4_join_58 rfl (lv_at hl 0 rfl) ?_
  refine lv_if_eq (tgt := 70) C.1.1 C.1.2.1 dX4_join_59 (by decide) (fun h_z => ?_) (fun h_z => ?_)
  · rw [if_pos h_z] at hF
    exact bX4_join_70 C O X (lv_sub hl [] rfl) hF
  · rw [if_neg h_z] at hF
    exact bX4_join_62 C O X (lv_sub hl [1] rfl) hF
noncomputable def fX4_join_b57 (N : Nat) (t0 : Int32) (S : gS) : Option (Int32 × gS) := some (t0, S)
theorem bX4_join_57 {N : Nat} {t0 : Int32} {S : gS} {H : Heap} {locs : List Loc} {ls : Array Slot} {o : Int32 × gS} (C : gC p s m args meth c cX4_join 3 RX4 ((some .int)) D (xtys cI cB cZ cQ) xord g Am) (O : xO g cI cB cZ cQ Am) (X : gX D (xcell g cI cB cZ cQ) xord g S s H locs) (hl : lv_has ls 3 []) (hF : fX4_join_b57 N t0 S = some o) : W p l e (rmd 0) s m args below meth c H locs 0 0 (gE below args s D (xtys cI cB cZ cQ) (xcell g cI cB cZ cQ) xord g (some (.int o.1)) o.2) (F0 m 57 ls [.int t0]) := by
  unfold fX4_join_b57 at hF
  cases hF
  exact g_iret C X dX4_join_57
noncomputable def fX4_join_b56 (N : Nat) (S : gS) : Option (Int32 × gS) := fX4_join_b57 N 0 S
theorem bX4_join_56 {N : Nat} {S : gS} {H : Heap} {locs : List Loc} {ls : Array Slot} {o : Int32 × gS} (C : gC p s m args meth c cX4_join 3 RX4 ((some .int)) D (xtys cI cB cZ cQ) xord g Am) (O : xO g cI cB cZ cQ Am) (X : gX D (xcell g cI cB cZ cQ) xord g S s H locs) (hl : lv_has ls 3 []) (hF : fX4_join_b56 N S = some o) : W p l e (rmd 0) s m args below meth c H locs 0 0 (gE below args s D (xtys cI cB cZ cQ) (xcell g cI cB cZ cQ) xord g (some (.int o.1)) o.2) (F0 m 56 ls []) := by
  unfold fX4_join_b56 at hF
  refine lv_iconst (v := 0) C.1.1 C.1.2.1 dX4_join_56 (by decide) ?_
  exact bX4_join_57 C O X (lv_sub hl [] rfl) hF
noncomputable def fX4_join_b52 (N : Nat) (S : gS) : Option (Int32 × gS) := fX4_join_b57 N 1 S
theorem bX4_join_52 {N : Nat} {S : gS} {H : Heap} {locs : List Loc} {ls : Array Slot} {o : Int32 × gS} (C : gC p s m args meth c cX4_join 3 RX4 ((some .int)) D (xtys cI cB cZ cQ) xord g Am) (O : xO g cI cB cZ cQ Am) (X : gX D (xcell g cI cB cZ cQ) xord g S s H locs) (hl : lv_has ls 3 []) (hF : fX4_join_b52 N S = some o) : W p l e (rmd 0) s m args below meth c H locs 0 0 (gE below args s D (xtys cI cB cZ cQ) (xcell g cI cB cZ cQ) xord g (some (.int o.1)) o.2) (F0 m 52 ls []) := by
  unfold fX4_join_b52 at hF
  refine lv_iconst (v := 1) C.1.1 C.1.2.1 dX4_join_52 (by decide) ?_
  refine lv_goto (tgt := 57) C.1.1 C.1.2.1 dX4_join_53 (by decide) ?_
  exact bX4_join_57 C O X (lv_sub hl [] rfl) hF
noncomputable def fX4_join_b48 (N : Nat) (x2 : Int32) (S : gS) : Option (Int32 × gS) := if x2 = 0 then fX4_join_b56 N S else fX4_join_b52 N S
theorem bX4_join_48 {N : Nat} {x2 : Int32} {S : gS} {H : Heap} {locs : List Loc} {ls : Array Slot} {o : Int32 × gS} (C : gC p s m args meth c cX4_join 3 RX4 ((some .int)) D (xtys cI cB cZ cQ) xord g Am) (O : xO g cI cB cZ cQ Am) (X : gX D (xcell g cI cB cZ cQ) xord g S s H locs) (hl : lv_has ls 3 [(2, .int x2)]) (hF : fX4_join_b48 N x2 S = some o) : W p l e (rmd 0) s m args below meth c H locs 0 0 (gE below args s D (xtys cI cB cZ cQ) (xcell g cI cB cZ cQ) xord g (some (.int o.1)) o.2) (F0 m 48 ls []) := by
  unfold fX4_join_b48 at hF
  refine lv_iload_n C.1.1 C.1.2.1 dX4_join_48 rfl (lv_at hl 0 rfl) ?_
  refine lv_if_eq (tgt := 56) C.1.1 C.1.2.1 dX4_join_49 (by decide) (fun h_z => ?_) (fun h_z => ?_)
  · rw [if_pos h_z] at hF
    exact bX4_join_56 C O X (lv_sub hl [] rfl) hF
  · rw [if_neg h_z] at hF
    exact bX4_join_52 C O X (lv_sub hl [] rfl) hF
noncomputable def fX4_join_b44 (N : Nat) (x1 : Int32) (x2 : Int32) (S : gS) : Option (Int32 × gS) := if x1 = 0 then fX4_join_b48 N x2 S else fX4_join_b52 N S
theorem bX4_join_44 {N : Nat} {x1 : Int32} {x2 : Int32} {S : gS} {H : Heap} {locs : List Loc} {ls : Array Slot} {o : Int32 × gS} (C : gC p s m args meth c cX4_join 3 RX4 ((some .int)) D (xtys cI cB cZ cQ) xord g Am) (O : xO g cI cB cZ cQ Am) (X : gX D (xcell g cI cB cZ cQ) xord g S s H locs) (hl : lv_has ls 3 [(1, .int x1), (2, .int x2)]) (hF : fX4_join_b44 N x1 x2 S = some o) : W p l e (rmd 0) s m args below meth c H locs 0 0 (gE below args s D (xtys cI cB cZ cQ) (xcell g cI cB cZ cQ) xord g (some (.int o.1)) o.2) (F0 m 44 ls []) := by
  unfold fX4_join_b44 at hF
  refine lv_iload_n C.1.1 C.1.2.1 dX4_join_44 rfl (lv_at hl 0 rfl) ?_
  refine lv_if_ne (tgt := 52) C.1.1 C.1.2.1 dX4_join_45 (by decide) (fun h_z => ?_) (fun h_z => ?_)
  · rw [if_neg h_z] at hF
    exact bX4_join_52 C O X (lv_sub hl [] rfl) hF
  · rw [if_pos h_z] at hF
    exact bX4_join_48 C O X (lv_sub hl [1] rfl) hF
noncomputable def fX4_join_b0 (N : Nat) (x0 : Int32) (x1 : Int32) (x2 : Int32) (S : gS) : Option (Int32 × gS) := if x0 = 10011 then fX4_join_b44 N x1 x2 S else if x0 = 10012 then fX4_join_b58 N x1 x2 S else if x0 = 10013 then fX4_join_b72 N x1 x2 S else if x0 = 10014 then fX4_join_b83 N x1 x2 S else if x0 = 10015 then fX4_join_b94 N x1 x2 S else if x0 = 10016 then fX4_join_b98 N x1 x2 S else if x0 = 10017 then fX4_join_b102 N x1 x2 S else fX4_join_b106 N x1 x2 S
theorem bX4_join_0 {N : Nat} {x0 : Int32} {x1 : Int32} {x2 : Int32} {S : gS} {H : Heap} {locs : List Loc} {ls : Array Slot} {o : Int32 × gS} (C : gC p s m args meth c cX4_join 3 RX4 ((some .int)) D (xtys cI cB cZ cQ) xord g Am) (O : xO g cI cB cZ cQ Am) (X : gX D (xcell g cI cB cZ cQ) xord g S s H locs) (hl : lv_has ls 3 [(0, .int x0), (1, .int x1), (2, .int x2)]) (hF : fX4_join_b0 N x0 x1 x2 S = some o) : W p l e (rmd 0) s m args below meth c H locs 0 0 (gE below args s D (xtys cI cB cZ cQ) (xcell g cI cB cZ cQ) xord g (some (.int o.1)) o.2) (F0 m 0 ls []) := by
  unfold fX4_join_b0 at hF
  refine lv_iload_n C.1.1 C.1.2.1 dX4_join_0 rfl (lv_at hl 0 rfl) ?_
  by_cases hz_10011 : x0 = 10011
  · rw [if_pos hz_10011] at hF
    refine lv_tableIn (off := 43) (tgt := 44) C.1.1 C.1.2.1 dX4_join_1 (by rw [hz_10011]; decide) (by rw [hz_10011]; decide) (by rw [hz_10011]; decide) (by decide) ?_
    exact bX4_join_44 C O X (lv_sub hl [1, 2] rfl) hF
  rw [if_neg hz_10011] at hF
  by_cases hz_10012 : x0 = 10012
  · rw [if_pos hz_10012] at hF
    refine lv_tableIn (off := 57) (tgt := 58) C.1.1 C.1.2.1 dX4_join_1 (by rw [hz_10012]; decide) (by rw [hz_10012]; decide) (by rw [hz_10012]; decide) (by decide) ?_
    exact bX4_join_58 C O X (lv_sub hl [1, 2] rfl) hF
  rw [if_neg hz_10012] at hF
  by_cases hz_10013 : x0 = 10013
  · rw [if_pos hz_10013] at hF
    refine lv_tableIn (off := 71) (tgt := 72) C.1.1 C.1.2.1 dX4_join_1 (by rw [hz_10013]; decide) (by rw [hz_10013]; decide) (by rw [hz_10013]; decide) (by decide) ?_
    exact bX4_join_72 C O X (lv_sub hl [1, 2] rfl) hF
  rw [if_neg hz_10013] at hF
  by_cases hz_10014 : x0 = 10014
  · rw [if_pos hz_10014] at hF
    refine lv_tableIn (off := 82) (tgt := 83) C.1.1 C.1.2.1 dX4_join_1 (by rw [hz_10014]; decide) (by rw [hz_10014]; decide) (by rw [hz_10014]; decide) (by decide) ?_
    exact bX4_join_83 C O X (lv_sub hl [1, 2] rfl) hF
  rw [if_neg hz_10014] at hF
  by_cases hz_10015 : x0 = 10015
  · rw [if_pos hz_10015] at hF
    refine lv_tableIn (off := 93) (tgt := 94) C.1.1 C.1.2.1 dX4_join_1 (by rw [hz_10015]; decide) (by rw [hz_10015]; decide) (by rw [hz_10015]; decide) (by decide) ?_
    exact bX4_join_94 C O X (lv_sub hl [1, 2] rfl) hF
  rw [if_neg hz_10015] at hF
  by_cases hz_10016 : x0 = 10016
  · rw [if_pos hz_10016] at hF
    refine lv_tableIn (off := 97) (tgt := 98) C.1.1 C.1.2.1 dX4_join_1 (by rw [hz_10016]; decide) (by rw [hz_10016]; decide) (by rw [hz_10016]; decide) (by decide) ?_
    exact bX4_join_98 C O X (lv_sub hl [1, 2] rfl) hF
  rw [if_neg hz_10016] at hF
  by_cases hz_10017 : x0 = 10017
  · rw [if_pos hz_10017] at hF
    refine lv_tableIn (off := 101) (tgt := 102) C.1.1 C.1.2.1 dX4_join_1 (by rw [hz_10017]; decide) (by rw [hz_10017]; decide) (by rw [hz_10017]; decide) (by decide) ?_
    exact bX4_join_102 C O X (lv_sub hl [1, 2] rfl) hF
  rw [if_neg hz_10017] at hF
  refine lv_tableOut (tgt := 106) C.1.1 C.1.2.1 dX4_join_1 (g_tsw 10011 10017 _ ?_) (by decide) ?_
  · intro i hi1 hi2
    rcases (show i = 10011 ∨ i = 10012 ∨ i = 10013 ∨ i = 10014 ∨ i = 10015 ∨ i = 10016 ∨ i = 10017 by omega) with rfl | rfl | rfl | rfl | rfl | rfl | rfl
    · exact hz_10011
    · exact hz_10012
    · exact hz_10013
    · exact hz_10014
    · exact hz_10015
    · exact hz_10016
    · exact hz_10017
  exact bX4_join_106 C O X (lv_sub hl [1, 2] rfl) hF
noncomputable def fX4_join (N : Nat) (x0 : Int32) (x1 : Int32) (x2 : Int32) (S : gS) : Option (Int32 × gS) := fX4_join_b0 N x0 x1 x2 S
theorem kX4_join {l : Launch} {D : va_G} {g : Nat → Nat} {cI cB cZ cQ : ClassId} {Am : (Nat → Prop) → State → Heap → Prop} (O : xO g cI cB cZ cQ Am) (P : gAm Am) (N : Nat) (x0 : Int32) (x1 : Int32) (x2 : Int32) (S : gS) (o : Int32 × gS) (hF : fX4_join N x0 x1 x2 S = some o) : gM l yX4_join cX4_join 3 ((some .int)) 0 D (xtys cI cB cZ cQ) (xcell g cI cB cZ cQ) xord g Am [.int x0, .int x1, .int x2] S (some (.int o.1)) o.2 :=
  gM_of O.1 P (by decide) (Nat.le_of_ble_eq_true rfl) (fun p e s m args below meth c ls C X hl => bX4_join_0 C O X (lv_sub hl [0, 1, 2] rfl) hF)
-- X5.add
noncomputable def fX5_add_b49 (N : Nat) (S : gS) : Option (Int32 × gS) := some (0, S)
theorem bX5_add_49 {N : Nat} {S : gS} {H : Heap} {locs : List Loc} {ls : Array Slot} {o : Int32 × gS} (C : gC p s m args meth c cX5_add 4 RX5 none D (xtys cI cB cZ cQ) xord g Am) (O : xO g cI cB cZ cQ Am) (X : gX D (xcell g cI cB cZ cQ) xord g S s H locs) (hl : lv_has ls 4 []) (hF : fX5_add_b49 N S = some o) : W p l e (rmd 0) s m args below meth c H locs 0 0 (gE below args s D (xtys cI cB cZ cQ) (xcell g cI cB cZ cQ) xord g none o.2) (F0 m 49 ls []) := by
  unfold fX5_add_b49 at hF
  cases hF
  exact g_vret C X dX5_add_49
noncomputable def fX5_add_b9 (N : Nat) (k0 : Nat) (x1 : Int32) (x2 : Int32) (x3 : Int32) (S : gS) : Option (Int32 × gS) := chk (inb (S k0 3) 8) (lt (sU S (k0 + 1) (Int32.toNatClampNeg (S k0 3)) x1) fun S1 => (chk (inb (S1 k0 3) 8) (lt (sU S1 (k0 + 2) (Int32.toNatClampNeg (S1 k0 3)) x2) fun S2 => (chk (inb (S2 k0 3) 8) (lt (sU S2 (k0 + 3) (Int32.toNatClampNeg (S2 k0 3)) x3) fun S3 => (lt (sU S3 k0 3 (((S3 k0 3) + 1 : Int32))) fun S4 => (fX5_add_b49 N S4)))))))
theorem bX5_add_9 {N : Nat} {k0 : Nat} {x1 : Int32} {x2 : Int32} {x3 : Int32} {S : gS} {H : Heap} {locs : List Loc} {ls : Array Slot} {o : Int32 × gS} (C : gC p s m args meth c cX5_add 4 RX5 none D (xtys cI cB cZ cQ) xord g Am) (O : xO g cI cB cZ cQ Am) (hk_k0 : xk k0 = 5) (X : gX D (xcell g cI cB cZ cQ) xord g S s H locs) (hl : lv_has ls 4 [(0, .ref (g k0)), (1, .int x1), (2, .int x2), (3, .int x3)]) (hF : fX5_add_b9 N k0 x1 x2 x3 S = some o) : W p l e (rmd 0) s m args below meth c H locs 0 0 (gE below args s D (xtys cI cB cZ cQ) (xcell g cI cB cZ cQ) xord g none o.2) (F0 m 9 ls []) := by
  unfold fX5_add_b9 at hF
  refine lv_aload_n C.1.1 C.1.2.1 dX5_add_9 rfl (lv_at hl 0 rfl) ?_
  refine xg_X5_9 C O X (k := k0) hk_k0 (j := k0 + 1) rfl dX5_add_10 ?_
  refine lv_aload_n C.1.1 C.1.2.1 dX5_add_13 rfl (lv_at hl 0 rfl) ?_
  refine xg_X5_21 C O X (k := k0) hk_k0 dX5_add_14 ?_
  refine lv_iload_n C.1.1 C.1.2.1 dX5_add_17 rfl (lv_at hl 1 rfl) ?_
  obtain ⟨h_1, hF⟩ := chk_some hF
  obtain ⟨S1, eS1, hF⟩ := lt_some hF
  refine x_wI C O X (k := k0 + 1) (xs_5_0 hk_k0).1 (n := 8) (xs_5_0 hk_k0).2  (inb_vp h_1) rfl eS1 dX5_add_18 (fun H locs X => ?_)
  refine lv_aload_n C.1.1 C.1.2.1 dX5_add_19 rfl (lv_at hl 0 rfl) ?_
  refine xg_X5_15 C O X (k := k0) hk_k0 (j := k0 + 2) rfl dX5_add_20 ?_
  refine lv_aload_n C.1.1 C.1.2.1 dX5_add_23 rfl (lv_at hl 0 rfl) ?_
  refine xg_X5_21 C O X (k := k0) hk_k0 dX5_add_24 ?_
  refine lv_iload_n C.1.1 C.1.2.1 dX5_add_27 rfl (lv_at hl 2 rfl) ?_
  obtain ⟨h_2, hF⟩ := chk_some hF
  obtain ⟨S2, eS2, hF⟩ := lt_some hF
  refine x_wI C O X (k := k0 + 2) (xs_5_1 hk_k0).1 (n := 8) (xs_5_1 hk_k0).2  (inb_vp h_2) rfl eS2 dX5_add_28 (fun H locs X => ?_)
  refine lv_aload_n C.1.1 C.1.2.1 dX5_add_29 rfl (lv_at hl 0 rfl) ?_
  refine xg_X5_18 C O X (k := k0) hk_k0 (j := k0 + 3) rfl dX5_add_30 ?_
  refine lv_aload_n C.1.1 C.1.2.1 dX5_add_33 rfl (lv_at hl 0 rfl) ?_
  refine xg_X5_21 C O X (k := k0) hk_k0 dX5_add_34 ?_
  refine lv_iload_n C.1.1 C.1.2.1 dX5_add_37 rfl (lv_at hl 3 rfl) ?_
  obtain ⟨h_3, hF⟩ := chk_some hF
  obtain ⟨S3, eS3, hF⟩ := lt_some hF
  refine x_wI C O X (k := k0 + 3) (xs_5_2 hk_k0).1 (n := 8) (xs_5_2 hk_k0).2  (inb_vp h_3) rfl eS3 dX5_add_38 (fun H locs X => ?_)
  refine lv_aload_n C.1.1 C.1.2.1 dX5_add_39 rfl (lv_at hl 0 rfl) ?_
  refine lv_dup C.1.1 C.1.2.1 dX5_add_40 rfl ?_
  refine xg_X5_21 C O X (k := k0) hk_k0 dX5_add_41 ?_
  refine lv_iconst (v := 1) C.1.1 C.1.2.1 dX5_add_44 (by decide) ?_
  refine lv_iadd C.1.1 C.1.2.1 dX5_add_45 ?_
  obtain ⟨S4, eS4, hF⟩ := lt_some hF
  refine xp_X5_21 C O X (k := k0) hk_k0 eS4 dX5_add_46 (fun H locs X => ?_)
  exact bX5_add_49 C O X (lv_sub hl [] rfl) hF
noncomputable def fX5_add_b0 (N : Nat) (k0 : Nat) (x1 : Int32) (x2 : Int32) (x3 : Int32) (S : gS) : Option (Int32 × gS) := if 8 ≤ (S k0 3) then fX5_add_b49 N S else fX5_add_b9 N k0 x1 x2 x3 S
theorem bX5_add_0 {N : Nat} {k0 : Nat} {x1 : Int32} {x2 : Int32} {x3 : Int32} {S : gS} {H : Heap} {locs : List Loc} {ls : Array Slot} {o : Int32 × gS} (C : gC p s m args meth c cX5_add 4 RX5 none D (xtys cI cB cZ cQ) xord g Am) (O : xO g cI cB cZ cQ Am) (hk_k0 : xk k0 = 5) (X : gX D (xcell g cI cB cZ cQ) xord g S s H locs) (hl : lv_has ls 4 [(0, .ref (g k0)), (1, .int x1), (2, .int x2), (3, .int x3)]) (hF : fX5_add_b0 N k0 x1 x2 x3 S = some o) : W p l e (rmd 0) s m args below meth c H locs 0 0 (gE below args s D (xtys cI cB cZ cQ) (xcell g cI cB cZ cQ) xord g none o.2) (F0 m 0 ls []) := by
  unfold fX5_add_b0 at hF
  refine lv_aload_n C.1.1 C.1.2.1 dX5_add_0 rfl (lv_at hl 0 rfl) ?_
  refine xg_X5_21 C O X (k := k0) hk_k0 dX5_add_1 ?_
  refine lv_bipush (v := 8) C.1.1 C.1.2.1 dX5_add_4 (by decide) ?_
  refine lv_icmp_ge (tgt := 49) C.1.1 C.1.2.1 dX5_add_6 (by decide) (fun h_z => ?_) (fun h_z => ?_)
  · rw [if_pos h_z] at hF
    exact bX5_add_49 C O X (lv_sub hl [] rfl) hF
  · rw [if_neg h_z] at hF
    exact bX5_add_9 C O (hk_k0 : xk k0 = 5) X (lv_sub hl [0, 1, 2, 3] rfl) hF
noncomputable def fX5_add (N : Nat) (k0 : Nat) (x1 : Int32) (x2 : Int32) (x3 : Int32) (S : gS) : Option (Int32 × gS) := fX5_add_b0 N k0 x1 x2 x3 S
theorem kX5_add {l : Launch} {D : va_G} {g : Nat → Nat} {cI cB cZ cQ : ClassId} {Am : (Nat → Prop) → State → Heap → Prop} (O : xO g cI cB cZ cQ Am) (P : gAm Am) (N : Nat) (k0 : Nat) (x1 : Int32) (x2 : Int32) (x3 : Int32) (hk_k0 : xk k0 = 5) (S : gS) (o : Int32 × gS) (hF : fX5_add N k0 x1 x2 x3 S = some o) : gM l yX5_add cX5_add 4 none 0 D (xtys cI cB cZ cQ) (xcell g cI cB cZ cQ) xord g Am [.ref (g k0), .int x1, .int x2, .int x3] S none o.2 :=
  gM_of O.1 P (by decide) (Nat.le_of_ble_eq_true rfl) (fun p e s m args below meth c ls C X hl => bX5_add_0 C O hk_k0 X (lv_sub hl [0, 1, 2, 3] rfl) hF)
-- X5.suits
noncomputable def fX5_suits_b77 (N : Nat) (S : gS) : Option (Int32 × gS) := some (1, S)
theorem bX5_suits_77 {N : Nat} {S : gS} {H : Heap} {locs : List Loc} {ls : Array Slot} {o : Int32 × gS} (C : gC p s m args meth c cX5_suits 5 RX5 ((some .boolean)) D (xtys cI cB cZ cQ) xord g Am) (O : xO g cI cB cZ cQ Am) (X : gX D (xcell g cI cB cZ cQ) xord g S s H locs) (hl : lv_has ls 5 []) (hF : fX5_suits_b77 N S = some o) : W p l e (rmd 0) s m args below meth c H locs 0 0 (gE below args s D (xtys cI cB cZ cQ) (xcell g cI cB cZ cQ) xord g (some (.int o.1)) o.2) (F0 m 77 ls []) := by
  unfold fX5_suits_b77 at hF
  refine lv_iconst (v := 1) C.1.1 C.1.2.1 dX5_suits_77 (by decide) ?_
  cases hF
  exact g_zret (x := 1) C X (by decide) dX5_suits_78
noncomputable def fX5_suits_b71 (N : Nat) (r2 : Nat → Int32 → Nat → Int32 → gS → Option (Int32 × gS)) (k0 : Nat) (x1 : Int32) (k2 : Nat) (x3 : Int32) (S : gS) : Option (Int32 × gS) := r2 k0 x1 k2 ((x3 + 1 : Int32)) S
theorem bX5_suits_71 {N : Nat} {r2 : Nat → Int32 → Nat → Int32 → gS → Option (Int32 × gS)} {k0 : Nat} {x1 : Int32} {k2 : Nat} {x3 : Int32} {S : gS} {H : Heap} {locs : List Loc} {ls : Array Slot} {o : Int32 × gS} (C : gC p s m args meth c cX5_suits 5 RX5 ((some .boolean)) D (xtys cI cB cZ cQ) xord g Am) (O : xO g cI cB cZ cQ Am) (K2 : ∀ (k0 : Nat) (x1 : Int32) (k2 : Nat) (x3 : Int32) (hk_k0 : xk k0 = 5) (hk_k2 : xk k2 = 20) (S : gS) (H : Heap) (locs : List Loc) (ls : Array Slot), gX D (xcell g cI cB cZ cQ) xord g S s H locs → lv_has ls 5 [(0, .ref (g k0)), (1, .int x1), (2, .ref (g k2)), (3, .int x3)] → r2 k0 x1 k2 x3 S = some o → W p l e (rmd 0) s m args below meth c H locs 0 0 (gE below args s D (xtys cI cB cZ cQ) (xcell g cI cB cZ cQ) xord g (some (.int o.1)) o.2) (F0 m 2 ls [])) (hk_k0 : xk k0 = 5) (hk_k2 : xk k2 = 20) (X : gX D (xcell g cI cB cZ cQ) xord g S s H locs) (hl : lv_has ls 5 [(0, .ref (g k0)), (1, .int x1), (2, .ref (g k2)), (3, .int x3)]) (hF : fX5_suits_b71 N r2 k0 x1 k2 x3 S = some o) : W p l e (rmd 0) s m args below meth c H locs 0 0 (gE below args s D (xtys cI cB cZ cQ) (xcell g cI cB cZ cQ) xord g (some (.int o.1)) o.2) (F0 m 71 ls []) := by
  unfold fX5_suits_b71 at hF
  refine lv_iinc (v := (x3 + 1 : Int32)) (lv' := [(3, .int ((x3 + 1 : Int32))), (0, .ref (g k0)), (1, .int x1), (2, .ref (g k2))]) C.1.1 C.1.2.1 dX5_suits_71 hl (k := 3) rfl rfl (by decide) rfl (fun ls hl => ?_)
  refine lv_goto (tgt := 2) C.1.1 C.1.2.1 dX5_suits_74 (by decide) ?_
  exact K2 _ _ _ _ (hk_k0 : xk k0 = 5) (hk_k2 : xk k2 = 20) _ _ _ _ X (lv_sub hl [1, 2, 3, 0] rfl) hF
noncomputable def fX5_suits_b69 (N : Nat) (S : gS) : Option (Int32 × gS) := some (0, S)
theorem bX5_suits_69 {N : Nat} {S : gS} {H : Heap} {locs : List Loc} {ls : Array Slot} {o : Int32 × gS} (C : gC p s m args meth c cX5_suits 5 RX5 ((some .boolean)) D (xtys cI cB cZ cQ) xord g Am) (O : xO g cI cB cZ cQ Am) (X : gX D (xcell g cI cB cZ cQ) xord g S s H locs) (hl : lv_has ls 5 []) (hF : fX5_suits_b69 N S = some o) : W p l e (rmd 0) s m args below meth c H locs 0 0 (gE below args s D (xtys cI cB cZ cQ) (xcell g cI cB cZ cQ) xord g (some (.int o.1)) o.2) (F0 m 69 ls []) := by
  unfold fX5_suits_b69 at hF
  refine lv_iconst (v := 0) C.1.1 C.1.2.1 dX5_suits_69 (by decide) ?_
  cases hF
  exact g_zret (x := 0) C X (by decide) dX5_suits_70
noncomputable def fX5_suits_b52 (N : Nat) (r2 : Nat → Int32 → Nat → Int32 → gS → Option (Int32 × gS)) (k0 : Nat) (x1 : Int32) (k2 : Nat) (x3 : Int32) (S : gS) : Option (Int32 × gS) := chk (inb x3 8) (chk (inb (S (k0 + 2) (Int32.toNatClampNeg x3)) (xN k2)) (chk (inb x3 8) (if (S k2 (Int32.toNatClampNeg (S (k0 + 2) (Int32.toNatClampNeg x3)))) = (S (k0 + 3) (Int32.toNatClampNeg x3)) then fX5_suits_b71 N r2 k0 x1 k2 x3 S else fX5_suits_b69 N S)))
theorem bX5_suits_52 {N : Nat} {r2 : Nat → Int32 → Nat → Int32 → gS → Option (Int32 × gS)} {k0 : Nat} {x1 : Int32} {k2 : Nat} {x3 : Int32} {S : gS} {H : Heap} {locs : List Loc} {ls : Array Slot} {o : Int32 × gS} (C : gC p s m args meth c cX5_suits 5 RX5 ((some .boolean)) D (xtys cI cB cZ cQ) xord g Am) (O : xO g cI cB cZ cQ Am) (K2 : ∀ (k0 : Nat) (x1 : Int32) (k2 : Nat) (x3 : Int32) (hk_k0 : xk k0 = 5) (hk_k2 : xk k2 = 20) (S : gS) (H : Heap) (locs : List Loc) (ls : Array Slot), gX D (xcell g cI cB cZ cQ) xord g S s H locs → lv_has ls 5 [(0, .ref (g k0)), (1, .int x1), (2, .ref (g k2)), (3, .int x3)] → r2 k0 x1 k2 x3 S = some o → W p l e (rmd 0) s m args below meth c H locs 0 0 (gE below args s D (xtys cI cB cZ cQ) (xcell g cI cB cZ cQ) xord g (some (.int o.1)) o.2) (F0 m 2 ls [])) (hk_k0 : xk k0 = 5) (hk_k2 : xk k2 = 20) (X : gX D (xcell g cI cB cZ cQ) xord g S s H locs) (hl : lv_has ls 5 [(0, .ref (g k0)), (1, .int x1), (2, .ref (g k2)), (3, .int x3)]) (hF : fX5_suits_b52 N r2 k0 x1 k2 x3 S = some o) : W p l e (rmd 0) s m args below meth c H locs 0 0 (gE below args s D (xtys cI cB cZ cQ) (xcell g cI cB cZ cQ) xord g (some (.int o.1)) o.2) (F0 m 52 ls []) := by
  unfold fX5_suits_b52 at hF
  refine lv_aload_n C.1.1 C.1.2.1 dX5_suits_52 rfl (lv_at hl 2 rfl) ?_
  refine lv_aload_n C.1.1 C.1.2.1 dX5_suits_53 rfl (lv_at hl 0 rfl) ?_
  refine xg_X5_15 C O X (k := k0) hk_k0 (j := k0 + 2) rfl dX5_suits_54 ?_
  refine lv_iload_n C.1.1 C.1.2.1 dX5_suits_57 rfl (lv_at hl 3 rfl) ?_
  obtain ⟨h_1, hF⟩ := chk_some hF
  refine x_rI C X (k := k0 + 2) (xs_5_1 hk_k0).1 (n := 8) (xs_5_1 hk_k0).2  (inb_vp h_1) rfl dX5_suits_58 ?_
  obtain ⟨h_2, hF⟩ := chk_some hF
  refine x_rI C X (k := k2) hk_k2 (n := xN k2) rfl  (inb_vp h_2) rfl dX5_suits_59 ?_
  refine lv_aload_n C.1.1 C.1.2.1 dX5_suits_60 rfl (lv_at hl 0 rfl) ?_
  refine xg_X5_18 C O X (k := k0) hk_k0 (j := k0 + 3) rfl dX5_suits_61 ?_
  refine lv_iload_n C.1.1 C.1.2.1 dX5_suits_64 rfl (lv_at hl 3 rfl) ?_
  obtain ⟨h_3, hF⟩ := chk_some hF
  refine x_rI C X (k := k0 + 3) (xs_5_2 hk_k0).1 (n := 8) (xs_5_2 hk_k0).2  (inb_vp h_3) rfl dX5_suits_65 ?_
  refine lv_icmp_eq (tgt := 71) C.1.1 C.1.2.1 dX5_suits_66 (by decide) (fun h_z => ?_) (fun h_z => ?_)
  · rw [if_pos h_z] at hF
    exact bX5_suits_71 C O K2 (hk_k0 : xk k0 = 5) (hk_k2 : xk k2 = 20) X (lv_sub hl [0, 1, 2, 3] rfl) hF
  · rw [if_neg h_z] at hF
    exact bX5_suits_69 C O X (lv_sub hl [] rfl) hF
noncomputable def fX5_suits_b47 (N : Nat) (r2 : Nat → Int32 → Nat → Int32 → gS → Option (Int32 × gS)) (k0 : Nat) (x1 : Int32) (k2 : Nat) (x3 : Int32) (x4 : Int32) (S : gS) : Option (Int32 × gS) := if x4 = 0 then fX5_suits_b71 N r2 k0 x1 k2 x3 S else fX5_suits_b52 N r2 k0 x1 k2 x3 S
theorem bX5_suits_47 {N : Nat} {r2 : Nat → Int32 → Nat → Int32 → gS → Option (Int32 × gS)} {k0 : Nat} {x1 : Int32} {k2 : Nat} {x3 : Int32} {x4 : Int32} {S : gS} {H : Heap} {locs : List Loc} {ls : Array Slot} {o : Int32 × gS} (C : gC p s m args meth c cX5_suits 5 RX5 ((some .boolean)) D (xtys cI cB cZ cQ) xord g Am) (O : xO g cI cB cZ cQ Am) (K2 : ∀ (k0 : Nat) (x1 : Int32) (k2 : Nat) (x3 : Int32) (hk_k0 : xk k0 = 5) (hk_k2 : xk k2 = 20) (S : gS) (H : Heap) (locs : List Loc) (ls : Array Slot), gX D (xcell g cI cB cZ cQ) xord g S s H locs → lv_has ls 5 [(0, .ref (g k0)), (1, .int x1), (2, .ref (g k2)), (3, .int x3)] → r2 k0 x1 k2 x3 S = some o → W p l e (rmd 0) s m args below meth c H locs 0 0 (gE below args s D (xtys cI cB cZ cQ) (xcell g cI cB cZ cQ) xord g (some (.int o.1)) o.2) (F0 m 2 ls [])) (hk_k0 : xk k0 = 5) (hk_k2 : xk k2 = 20) (X : gX D (xcell g cI cB cZ cQ) xord g S s H locs) (hl : lv_has ls 5 [(0, .ref (g k0)), (1, .int x1), (2, .ref (g k2)), (3, .int x3), (4, .int x4)]) (hF : fX5_suits_b47 N r2 k0 x1 k2 x3 x4 S = some o) : W p l e (rmd 0) s m args below meth c H locs 0 0 (gE below args s D (xtys cI cB cZ cQ) (xcell g cI cB cZ cQ) xord g (some (.int o.1)) o.2) (F0 m 47 ls []) := by
  unfold fX5_suits_b47 at hF
  refine lv_iload C.1.1 C.1.2.1 dX5_suits_47 (lv_at hl 4 rfl) ?_
  refine lv_if_eq (tgt := 71) C.1.1 C.1.2.1 dX5_suits_49 (by decide) (fun h_z => ?_) (fun h_z => ?_)
  · rw [if_pos h_z] at hF
    exact bX5_suits_71 C O K2 (hk_k0 : xk k0 = 5) (hk_k2 : xk k2 = 20) X (lv_sub hl [0, 1, 2, 3] rfl) hF
  · rw [if_neg h_z] at hF
    exact bX5_suits_52 C O K2 (hk_k0 : xk k0 = 5) (hk_k2 : xk k2 = 20) X (lv_sub hl [0, 1, 2, 3] rfl) hF
noncomputable def fX5_suits_b35 (N : Nat) (r2 : Nat → Int32 → Nat → Int32 → gS → Option (Int32 × gS)) (k0 : Nat) (x1 : Int32) (k2 : Nat) (x3 : Int32) (t0 : Int32) (S : gS) : Option (Int32 × gS) := chk (inb x3 8) (if (S (k0 + 1) (Int32.toNatClampNeg x3)) = x1 then fX5_suits_b47 N r2 k0 x1 k2 x3 t0 S else fX5_suits_b71 N r2 k0 x1 k2 x3 S)
theorem bX5_suits_35 {N : Nat} {r2 : Nat → Int32 → Nat → Int32 → gS → Option (Int32 × gS)} {k0 : Nat} {x1 : Int32} {k2 : Nat} {x3 : Int32} {t0 : Int32} {S : gS} {H : Heap} {locs : List Loc} {ls : Array Slot} {o : Int32 × gS} (C : gC p s m args meth c cX5_suits 5 RX5 ((some .boolean)) D (xtys cI cB cZ cQ) xord g Am) (O : xO g cI cB cZ cQ Am) (K2 : ∀ (k0 : Nat) (x1 : Int32) (k2 : Nat) (x3 : Int32) (hk_k0 : xk k0 = 5) (hk_k2 : xk k2 = 20) (S : gS) (H : Heap) (locs : List Loc) (ls : Array Slot), gX D (xcell g cI cB cZ cQ) xord g S s H locs → lv_has ls 5 [(0, .ref (g k0)), (1, .int x1), (2, .ref (g k2)), (3, .int x3)] → r2 k0 x1 k2 x3 S = some o → W p l e (rmd 0) s m args below meth c H locs 0 0 (gE below args s D (xtys cI cB cZ cQ) (xcell g cI cB cZ cQ) xord g (some (.int o.1)) o.2) (F0 m 2 ls [])) (hk_k0 : xk k0 = 5) (hk_k2 : xk k2 = 20) (X : gX D (xcell g cI cB cZ cQ) xord g S s H locs) (hl : lv_has ls 5 [(0, .ref (g k0)), (1, .int x1), (2, .ref (g k2)), (3, .int x3)]) (hF : fX5_suits_b35 N r2 k0 x1 k2 x3 t0 S = some o) : W p l e (rmd 0) s m args below meth c H locs 0 0 (gE below args s D (xtys cI cB cZ cQ) (xcell g cI cB cZ cQ) xord g (some (.int o.1)) o.2) (F0 m 35 ls [.int t0]) := by
  unfold fX5_suits_b35 at hF
  refine lv_istore (lv' := [(4, .int t0), (0, .ref (g k0)), (1, .int x1), (2, .ref (g k2)), (3, .int x3)]) C.1.1 C.1.2.1 dX5_suits_35 hl (by decide) rfl (fun ls hl => ?_)
  refine lv_aload_n C.1.1 C.1.2.1 dX5_suits_37 rfl (lv_at hl 1 rfl) ?_
  refine xg_X5_9 C O X (k := k0) hk_k0 (j := k0 + 1) rfl dX5_suits_38 ?_
  refine lv_iload_n C.1.1 C.1.2.1 dX5_suits_41 rfl (lv_at hl 4 rfl) ?_
  obtain ⟨h_1, hF⟩ := chk_some hF
  refine x_rI C X (k := k0 + 1) (xs_5_0 hk_k0).1 (n := 8) (xs_5_0 hk_k0).2  (inb_vp h_1) rfl dX5_suits_42 ?_
  refine lv_iload_n C.1.1 C.1.2.1 dX5_suits_43 rfl (lv_at hl 2 rfl) ?_
  refine lv_icmp_ne (tgt := 71) C.1.1 C.1.2.1 dX5_suits_44 (by decide) (fun h_z => ?_) (fun h_z => ?_)
  · rw [if_neg h_z] at hF
    exact bX5_suits_71 C O K2 (hk_k0 : xk k0 = 5) (hk_k2 : xk k2 = 20) X (lv_sub hl [1, 2, 3, 4] rfl) hF
  · rw [if_pos h_z] at hF
    exact bX5_suits_47 C O K2 (hk_k0 : xk k0 = 5) (hk_k2 : xk k2 = 20) X (lv_sub hl [1, 2, 3, 4, 0] rfl) hF
noncomputable def fX5_suits_b34 (N : Nat) (r2 : Nat → Int32 → Nat → Int32 → gS → Option (Int32 × gS)) (k0 : Nat) (x1 : Int32) (k2 : Nat) (x3 : Int32) (S : gS) : Option (Int32 × gS) := fX5_suits_b35 N r2 k0 x1 k2 x3 0 S
theorem bX5_suits_34 {N : Nat} {r2 : Nat → Int32 → Nat → Int32 → gS → Option (Int32 × gS)} {k0 : Nat} {x1 : Int32} {k2 : Nat} {x3 : Int32} {S : gS} {H : Heap} {locs : List Loc} {ls : Array Slot} {o : Int32 × gS} (C : gC p s m args meth c cX5_suits 5 RX5 ((some .boolean)) D (xtys cI cB cZ cQ) xord g Am) (O : xO g cI cB cZ cQ Am) (K2 : ∀ (k0 : Nat) (x1 : Int32) (k2 : Nat) (x3 : Int32) (hk_k0 : xk k0 = 5) (hk_k2 : xk k2 = 20) (S : gS) (H : Heap) (locs : List Loc) (ls : Array Slot), gX D (xcell g cI cB cZ cQ) xord g S s H locs → lv_has ls 5 [(0, .ref (g k0)), (1, .int x1), (2, .ref (g k2)), (3, .int x3)] → r2 k0 x1 k2 x3 S = some o → W p l e (rmd 0) s m args below meth c H locs 0 0 (gE below args s D (xtys cI cB cZ cQ) (xcell g cI cB cZ cQ) xord g (some (.int o.1)) o.2) (F0 m 2 ls [])) (hk_k0 : xk k0 = 5) (hk_k2 : xk k2 = 20) (X : gX D (xcell g cI cB cZ cQ) xord g S s H locs) (hl : lv_has ls 5 [(0, .ref (g k0)), (1, .int x1), (2, .ref (g k2)), (3, .int x3)]) (hF : fX5_suits_b34 N r2 k0 x1 k2 x3 S = some o) : W p l e (rmd 0) s m args below meth c H locs 0 0 (gE below args s D (xtys cI cB cZ cQ) (xcell g cI cB cZ cQ) xord g (some (.int o.1)) o.2) (F0 m 34 ls []) := by
  unfold fX5_suits_b34 at hF
  refine lv_iconst (v := 0) C.1.1 C.1.2.1 dX5_suits_34 (by decide) ?_
  exact bX5_suits_35 C O K2 (hk_k0 : xk k0 = 5) (hk_k2 : xk k2 = 20) X (lv_sub hl [0, 1, 2, 3] rfl) hF
noncomputable def fX5_suits_b30 (N : Nat) (r2 : Nat → Int32 → Nat → Int32 → gS → Option (Int32 × gS)) (k0 : Nat) (x1 : Int32) (k2 : Nat) (x3 : Int32) (S : gS) : Option (Int32 × gS) := fX5_suits_b35 N r2 k0 x1 k2 x3 1 S
theorem bX5_suits_30 {N : Nat} {r2 : Nat → Int32 → Nat → Int32 → gS → Option (Int32 × gS)} {k0 : Nat} {x1 : Int32} {k2 : Nat} {x3 : Int32} {S : gS} {H : Heap} {locs : List Loc} {ls : Array Slot} {o : Int32 × gS} (C : gC p s m args meth c cX5_suits 5 RX5 ((some .boolean)) D (xtys cI cB cZ cQ) xord g Am) (O : xO g cI cB cZ cQ Am) (K2 : ∀ (k0 : Nat) (x1 : Int32) (k2 : Nat) (x3 : Int32) (hk_k0 : xk k0 = 5) (hk_k2 : xk k2 = 20) (S : gS) (H : Heap) (locs : List Loc) (ls : Array Slot), gX D (xcell g cI cB cZ cQ) xord g S s H locs → lv_has ls 5 [(0, .ref (g k0)), (1, .int x1), (2, .ref (g k2)), (3, .int x3)] → r2 k0 x1 k2 x3 S = some o → W p l e (rmd 0) s m args below meth c H locs 0 0 (gE below args s D (xtys cI cB cZ cQ) (xcell g cI cB cZ cQ) xord g (some (.int o.1)) o.2) (F0 m 2 ls [])) (hk_k0 : xk k0 = 5) (hk_k2 : xk k2 = 20) (X : gX D (xcell g cI cB cZ cQ) xord g S s H locs) (hl : lv_has ls 5 [(0, .ref (g k0)), (1, .int x1), (2, .ref (g k2)), (3, .int x3)]) (hF : fX5_suits_b30 N r2 k0 x1 k2 x3 S = some o) : W p l e (rmd 0) s m args below meth c H locs 0 0 (gE below args s D (xtys cI cB cZ cQ) (xcell g cI cB cZ cQ) xord g (some (.int o.1)) o.2) (F0 m 30 ls []) := by
  unfold fX5_suits_b30 at hF
  refine lv_iconst (v := 1) C.1.1 C.1.2.1 dX5_suits_30 (by decide) ?_
  refine lv_goto (tgt := 35) C.1.1 C.1.2.1 dX5_suits_31 (by decide) ?_
  exact bX5_suits_35 C O K2 (hk_k0 : xk k0 = 5) (hk_k2 : xk k2 = 20) X (lv_sub hl [0, 1, 2, 3] rfl) hF
noncomputable def fX5_suits_b19 (N : Nat) (r2 : Nat → Int32 → Nat → Int32 → gS → Option (Int32 × gS)) (k0 : Nat) (x1 : Int32) (k2 : Nat) (x3 : Int32) (S : gS) : Option (Int32 × gS) := chk (inb x3 8) (if (Int32.ofNat (xN k2)) ≤ (S (k0 + 2) (Int32.toNatClampNeg x3)) then fX5_suits_b34 N r2 k0 x1 k2 x3 S else fX5_suits_b30 N r2 k0 x1 k2 x3 S)
theorem bX5_suits_19 {N : Nat} {r2 : Nat → Int32 → Nat → Int32 → gS → Option (Int32 × gS)} {k0 : Nat} {x1 : Int32} {k2 : Nat} {x3 : Int32} {S : gS} {H : Heap} {locs : List Loc} {ls : Array Slot} {o : Int32 × gS} (C : gC p s m args meth c cX5_suits 5 RX5 ((some .boolean)) D (xtys cI cB cZ cQ) xord g Am) (O : xO g cI cB cZ cQ Am) (K2 : ∀ (k0 : Nat) (x1 : Int32) (k2 : Nat) (x3 : Int32) (hk_k0 : xk k0 = 5) (hk_k2 : xk k2 = 20) (S : gS) (H : Heap) (locs : List Loc) (ls : Array Slot), gX D (xcell g cI cB cZ cQ) xord g S s H locs → lv_has ls 5 [(0, .ref (g k0)), (1, .int x1), (2, .ref (g k2)), (3, .int x3)] → r2 k0 x1 k2 x3 S = some o → W p l e (rmd 0) s m args below meth c H locs 0 0 (gE below args s D (xtys cI cB cZ cQ) (xcell g cI cB cZ cQ) xord g (some (.int o.1)) o.2) (F0 m 2 ls [])) (hk_k0 : xk k0 = 5) (hk_k2 : xk k2 = 20) (X : gX D (xcell g cI cB cZ cQ) xord g S s H locs) (hl : lv_has ls 5 [(0, .ref (g k0)), (1, .int x1), (2, .ref (g k2)), (3, .int x3)]) (hF : fX5_suits_b19 N r2 k0 x1 k2 x3 S = some o) : W p l e (rmd 0) s m args below meth c H locs 0 0 (gE below args s D (xtys cI cB cZ cQ) (xcell g cI cB cZ cQ) xord g (some (.int o.1)) o.2) (F0 m 19 ls []) := by
  unfold fX5_suits_b19 at hF
  refine lv_aload_n C.1.1 C.1.2.1 dX5_suits_19 rfl (lv_at hl 0 rfl) ?_
  refine xg_X5_15 C O X (k := k0) hk_k0 (j := k0 + 2) rfl dX5_suits_20 ?_
  refine lv_iload_n C.1.1 C.1.2.1 dX5_suits_23 rfl (lv_at hl 3 rfl) ?_
  obtain ⟨h_1, hF⟩ := chk_some hF
  refine x_rI C X (k := k0 + 2) (xs_5_1 hk_k0).1 (n := 8) (xs_5_1 hk_k0).2  (inb_vp h_1) rfl dX5_suits_24 ?_
  refine lv_aload_n C.1.1 C.1.2.1 dX5_suits_25 rfl (lv_at hl 2 rfl) ?_
  refine x_lI C X (k := k2) hk_k2 (n := xN k2) rfl (x := Int32.ofNat (xN k2)) rfl dX5_suits_26 ?_
  refine lv_icmp_ge (tgt := 34) C.1.1 C.1.2.1 dX5_suits_27 (by decide) (fun h_z => ?_) (fun h_z => ?_)
  · rw [if_pos h_z] at hF
    exact bX5_suits_34 C O K2 (hk_k0 : xk k0 = 5) (hk_k2 : xk k2 = 20) X (lv_sub hl [0, 1, 2, 3] rfl) hF
  · rw [if_neg h_z] at hF
    exact bX5_suits_30 C O K2 (hk_k0 : xk k0 = 5) (hk_k2 : xk k2 = 20) X (lv_sub hl [0, 1, 2, 3] rfl) hF
noncomputable def fX5_suits_b10 (N : Nat) (r2 : Nat → Int32 → Nat → Int32 → gS → Option (Int32 × gS)) (k0 : Nat) (x1 : Int32) (k2 : Nat) (x3 : Int32) (S : gS) : Option (Int32 × gS) := chk (inb x3 8) (if (S (k0 + 2) (Int32.toNatClampNeg x3)) < 0 then fX5_suits_b34 N r2 k0 x1 k2 x3 S else fX5_suits_b19 N r2 k0 x1 k2 x3 S)
theorem bX5_suits_10 {N : Nat} {r2 : Nat → Int32 → Nat → Int32 → gS → Option (Int32 × gS)} {k0 : Nat} {x1 : Int32} {k2 : Nat} {x3 : Int32} {S : gS} {H : Heap} {locs : List Loc} {ls : Array Slot} {o : Int32 × gS} (C : gC p s m args meth c cX5_suits 5 RX5 ((some .boolean)) D (xtys cI cB cZ cQ) xord g Am) (O : xO g cI cB cZ cQ Am) (K2 : ∀ (k0 : Nat) (x1 : Int32) (k2 : Nat) (x3 : Int32) (hk_k0 : xk k0 = 5) (hk_k2 : xk k2 = 20) (S : gS) (H : Heap) (locs : List Loc) (ls : Array Slot), gX D (xcell g cI cB cZ cQ) xord g S s H locs → lv_has ls 5 [(0, .ref (g k0)), (1, .int x1), (2, .ref (g k2)), (3, .int x3)] → r2 k0 x1 k2 x3 S = some o → W p l e (rmd 0) s m args below meth c H locs 0 0 (gE below args s D (xtys cI cB cZ cQ) (xcell g cI cB cZ cQ) xord g (some (.int o.1)) o.2) (F0 m 2 ls [])) (hk_k0 : xk k0 = 5) (hk_k2 : xk k2 = 20) (X : gX D (xcell g cI cB cZ cQ) xord g S s H locs) (hl : lv_has ls 5 [(0, .ref (g k0)), (1, .int x1), (2, .ref (g k2)), (3, .int x3)]) (hF : fX5_suits_b10 N r2 k0 x1 k2 x3 S = some o) : W p l e (rmd 0) s m args below meth c H locs 0 0 (gE below args s D (xtys cI cB cZ cQ) (xcell g cI cB cZ cQ) xord g (some (.int o.1)) o.2) (F0 m 10 ls []) := by
  unfold fX5_suits_b10 at hF
  refine lv_aload_n C.1.1 C.1.2.1 dX5_suits_10 rfl (lv_at hl 0 rfl) ?_
  refine xg_X5_15 C O X (k := k0) hk_k0 (j := k0 + 2) rfl dX5_suits_11 ?_
  refine lv_iload_n C.1.1 C.1.2.1 dX5_suits_14 rfl (lv_at hl 3 rfl) ?_
  obtain ⟨h_1, hF⟩ := chk_some hF
  refine x_rI C X (k := k0 + 2) (xs_5_1 hk_k0).1 (n := 8) (xs_5_1 hk_k0).2  (inb_vp h_1) rfl dX5_suits_15 ?_
  refine lv_if_lt (tgt := 34) C.1.1 C.1.2.1 dX5_suits_16 (by decide) (fun h_z => ?_) (fun h_z => ?_)
  · rw [if_pos h_z] at hF
    exact bX5_suits_34 C O K2 (hk_k0 : xk k0 = 5) (hk_k2 : xk k2 = 20) X (lv_sub hl [0, 1, 2, 3] rfl) hF
  · rw [if_neg h_z] at hF
    exact bX5_suits_19 C O K2 (hk_k0 : xk k0 = 5) (hk_k2 : xk k2 = 20) X (lv_sub hl [0, 1, 2, 3] rfl) hF
noncomputable def fX5_suits_b2 (N : Nat) (r2 : Nat → Int32 → Nat → Int32 → gS → Option (Int32 × gS)) (k0 : Nat) (x1 : Int32) (k2 : Nat) (x3 : Int32) (S : gS) : Option (Int32 × gS) := if (S k0 3) ≤ x3 then fX5_suits_b77 N S else fX5_suits_b10 N r2 k0 x1 k2 x3 S
theorem bX5_suits_2 {N : Nat} {r2 : Nat → Int32 → Nat → Int32 → gS → Option (Int32 × gS)} {k0 : Nat} {x1 : Int32} {k2 : Nat} {x3 : Int32} {S : gS} {H : Heap} {locs : List Loc} {ls : Array Slot} {o : Int32 × gS} (C : gC p s m args meth c cX5_suits 5 RX5 ((some .boolean)) D (xtys cI cB cZ cQ) xord g Am) (O : xO g cI cB cZ cQ Am) (K2 : ∀ (k0 : Nat) (x1 : Int32) (k2 : Nat) (x3 : Int32) (hk_k0 : xk k0 = 5) (hk_k2 : xk k2 = 20) (S : gS) (H : Heap) (locs : List Loc) (ls : Array Slot), gX D (xcell g cI cB cZ cQ) xord g S s H locs → lv_has ls 5 [(0, .ref (g k0)), (1, .int x1), (2, .ref (g k2)), (3, .int x3)] → r2 k0 x1 k2 x3 S = some o → W p l e (rmd 0) s m args below meth c H locs 0 0 (gE below args s D (xtys cI cB cZ cQ) (xcell g cI cB cZ cQ) xord g (some (.int o.1)) o.2) (F0 m 2 ls [])) (hk_k0 : xk k0 = 5) (hk_k2 : xk k2 = 20) (X : gX D (xcell g cI cB cZ cQ) xord g S s H locs) (hl : lv_has ls 5 [(0, .ref (g k0)), (1, .int x1), (2, .ref (g k2)), (3, .int x3)]) (hF : fX5_suits_b2 N r2 k0 x1 k2 x3 S = some o) : W p l e (rmd 0) s m args below meth c H locs 0 0 (gE below args s D (xtys cI cB cZ cQ) (xcell g cI cB cZ cQ) xord g (some (.int o.1)) o.2) (F0 m 2 ls []) := by
  unfold fX5_suits_b2 at hF
  refine lv_iload_n C.1.1 C.1.2.1 dX5_suits_2 rfl (lv_at hl 3 rfl) ?_
  refine lv_aload_n C.1.1 C.1.2.1 dX5_suits_3 rfl (lv_at hl 0 rfl) ?_
  refine xg_X5_21 C O X (k := k0) hk_k0 dX5_suits_4 ?_
  refine lv_icmp_ge (tgt := 77) C.1.1 C.1.2.1 dX5_suits_7 (by decide) (fun h_z => ?_) (fun h_z => ?_)
  · rw [if_pos h_z] at hF
    exact bX5_suits_77 C O X (lv_sub hl [] rfl) hF
  · rw [if_neg h_z] at hF
    exact bX5_suits_10 C O K2 (hk_k0 : xk k0 = 5) (hk_k2 : xk k2 = 20) X (lv_sub hl [0, 1, 2, 3] rfl) hF
noncomputable def fX5_suits_h2 (N : Nat) : Nat → Nat → Int32 → Nat → Int32 → gS → Option (Int32 × gS)
  | 0, _, _, _, _, _ => none
  | n + 1, k0, x1, k2, x3, S => fX5_suits_b2 N (fX5_suits_h2 N n) k0 x1 k2 x3 S
theorem hX5_suits_2 {N : Nat} {o : Int32 × gS} (C : gC p s m args meth c cX5_suits 5 RX5 ((some .boolean)) D (xtys cI cB cZ cQ) xord g Am) (O : xO g cI cB cZ cQ Am) : ∀ (n : Nat) (k0 : Nat) (x1 : Int32) (k2 : Nat) (x3 : Int32) (hk_k0 : xk k0 = 5) (hk_k2 : xk k2 = 20) (S : gS) (H : Heap) (locs : List Loc) (ls : Array Slot), gX D (xcell g cI cB cZ cQ) xord g S s H locs → lv_has ls 5 [(0, .ref (g k0)), (1, .int x1), (2, .ref (g k2)), (3, .int x3)] → fX5_suits_h2 N n k0 x1 k2 x3 S = some o → W p l e (rmd 0) s m args below meth c H locs 0 0 (gE below args s D (xtys cI cB cZ cQ) (xcell g cI cB cZ cQ) xord g (some (.int o.1)) o.2) (F0 m 2 ls []) := by
  intro n
  induction n with
  | zero =>
    intro k0 x1 k2 x3 hk_k0 hk_k2 S H locs ls X hl hF
    exact absurd (show (none : Option (Int32 × gS)) = some o from hF) (by simp)
  | succ n ih =>
    intro k0 x1 k2 x3 hk_k0 hk_k2 S H locs ls X hl hF
    have hF : fX5_suits_b2 N (fX5_suits_h2 N n) k0 x1 k2 x3 S = some o := hF
    exact bX5_suits_2 C O ih hk_k0 hk_k2 X hl hF
noncomputable def fX5_suits_b0 (N : Nat) (k0 : Nat) (x1 : Int32) (k2 : Nat) (S : gS) : Option (Int32 × gS) := fX5_suits_h2 N N k0 x1 k2 0 S
theorem bX5_suits_0 {N : Nat} {k0 : Nat} {x1 : Int32} {k2 : Nat} {S : gS} {H : Heap} {locs : List Loc} {ls : Array Slot} {o : Int32 × gS} (C : gC p s m args meth c cX5_suits 5 RX5 ((some .boolean)) D (xtys cI cB cZ cQ) xord g Am) (O : xO g cI cB cZ cQ Am) (hk_k0 : xk k0 = 5) (hk_k2 : xk k2 = 20) (X : gX D (xcell g cI cB cZ cQ) xord g S s H locs) (hl : lv_has ls 5 [(0, .ref (g k0)), (1, .int x1), (2, .ref (g k2))]) (hF : fX5_suits_b0 N k0 x1 k2 S = some o) : W p l e (rmd 0) s m args below meth c H locs 0 0 (gE below args s D (xtys cI cB cZ cQ) (xcell g cI cB cZ cQ) xord g (some (.int o.1)) o.2) (F0 m 0 ls []) := by
  unfold fX5_suits_b0 at hF
  refine lv_iconst (v := 0) C.1.1 C.1.2.1 dX5_suits_0 (by decide) ?_
  refine lv_istore_n (lv' := [(3, .int 0), (0, .ref (g k0)), (1, .int x1), (2, .ref (g k2))]) C.1.1 C.1.2.1 dX5_suits_1 rfl hl (by decide) rfl (fun ls hl => ?_)
  exact hX5_suits_2 C O N _ _ _ _ (hk_k0 : xk k0 = 5) (hk_k2 : xk k2 = 20) _ _ _ _ X (lv_sub hl [1, 2, 3, 0] rfl) hF
noncomputable def fX5_suits (N : Nat) (k0 : Nat) (x1 : Int32) (k2 : Nat) (S : gS) : Option (Int32 × gS) := fX5_suits_b0 N k0 x1 k2 S
theorem kX5_suits {l : Launch} {D : va_G} {g : Nat → Nat} {cI cB cZ cQ : ClassId} {Am : (Nat → Prop) → State → Heap → Prop} (O : xO g cI cB cZ cQ Am) (P : gAm Am) (N : Nat) (k0 : Nat) (x1 : Int32) (k2 : Nat) (hk_k0 : xk k0 = 5) (hk_k2 : xk k2 = 20) (S : gS) (o : Int32 × gS) (hF : fX5_suits N k0 x1 k2 S = some o) : gM l yX5_suits cX5_suits 5 ((some .boolean)) 0 D (xtys cI cB cZ cQ) (xcell g cI cB cZ cQ) xord g Am [.ref (g k0), .int x1, .ref (g k2)] S (some (.int o.1)) o.2 :=
  gM_of O.1 P (by decide) (Nat.le_of_ble_eq_true rfl) (fun p e s m args below meth c ls C X hl => bX5_suits_0 C O hk_k0 hk_k2 X (lv_sub hl [0, 1, 2] rfl) hF)
-- X5.copy
noncomputable def fX5_copy_b58 (N : Nat) (S : gS) : Option (Int32 × gS) := some (0, S)
theorem bX5_copy_58 {N : Nat} {S : gS} {H : Heap} {locs : List Loc} {ls : Array Slot} {o : Int32 × gS} (C : gC p s m args meth c cX5_copy 3 RX5 none D (xtys cI cB cZ cQ) xord g Am) (O : xO g cI cB cZ cQ Am) (X : gX D (xcell g cI cB cZ cQ) xord g S s H locs) (hl : lv_has ls 3 []) (hF : fX5_copy_b58 N S = some o) : W p l e (rmd 0) s m args below meth c H locs 0 0 (gE below args s D (xtys cI cB cZ cQ) (xcell g cI cB cZ cQ) xord g none o.2) (F0 m 58 ls []) := by
  unfold fX5_copy_b58 at hF
  cases hF
  exact g_vret C X dX5_copy_58
noncomputable def fX5_copy_b16 (N : Nat) (r10 : Nat → Nat → Int32 → gS → Option (Int32 × gS)) (k0 : Nat) (k1 : Nat) (x2 : Int32) (S : gS) : Option (Int32 × gS) := chk (inb x2 8) (chk (inb x2 8) (lt (sU S (k0 + 1) (Int32.toNatClampNeg x2) (S (k1 + 1) (Int32.toNatClampNeg x2))) fun S1 => (chk (inb x2 8) (chk (inb x2 8) (lt (sU S1 (k0 + 2) (Int32.toNatClampNeg x2) (S1 (k1 + 2) (Int32.toNatClampNeg x2))) fun S2 => (chk (inb x2 8) (chk (inb x2 8) (lt (sU S2 (k0 + 3) (Int32.toNatClampNeg x2) (S2 (k1 + 3) (Int32.toNatClampNeg x2))) fun S3 => (r10 k0 k1 ((x2 + 1 : Int32)) S3)))))))))
theorem bX5_copy_16 {N : Nat} {r10 : Nat → Nat → Int32 → gS → Option (Int32 × gS)} {k0 : Nat} {k1 : Nat} {x2 : Int32} {S : gS} {H : Heap} {locs : List Loc} {ls : Array Slot} {o : Int32 × gS} (C : gC p s m args meth c cX5_copy 3 RX5 none D (xtys cI cB cZ cQ) xord g Am) (O : xO g cI cB cZ cQ Am) (K10 : ∀ (k0 : Nat) (k1 : Nat) (x2 : Int32) (hk_k0 : xk k0 = 5) (hk_k1 : xk k1 = 5) (S : gS) (H : Heap) (locs : List Loc) (ls : Array Slot), gX D (xcell g cI cB cZ cQ) xord g S s H locs → lv_has ls 3 [(0, .ref (g k0)), (1, .ref (g k1)), (2, .int x2)] → r10 k0 k1 x2 S = some o → W p l e (rmd 0) s m args below meth c H locs 0 0 (gE below args s D (xtys cI cB cZ cQ) (xcell g cI cB cZ cQ) xord g none o.2) (F0 m 10 ls [])) (hk_k0 : xk k0 = 5) (hk_k1 : xk k1 = 5) (X : gX D (xcell g cI cB cZ cQ) xord g S s H locs) (hl : lv_has ls 3 [(0, .ref (g k0)), (1, .ref (g k1)), (2, .int x2)]) (hF : fX5_copy_b16 N r10 k0 k1 x2 S = some o) : W p l e (rmd 0) s m args below meth c H locs 0 0 (gE below args s D (xtys cI cB cZ cQ) (xcell g cI cB cZ cQ) xord g none o.2) (F0 m 16 ls []) := by
  unfold fX5_copy_b16 at hF
  refine lv_aload_n C.1.1 C.1.2.1 dX5_copy_16 rfl (lv_at hl 0 rfl) ?_
  refine xg_X5_9 C O X (k := k0) hk_k0 (j := k0 + 1) rfl dX5_copy_17 ?_
  refine lv_iload_n C.1.1 C.1.2.1 dX5_copy_20 rfl (lv_at hl 2 rfl) ?_
  refine lv_aload_n C.1.1 C.1.2.1 dX5_copy_21 rfl (lv_at hl 1 rfl) ?_
  refine xg_X5_9 C O X (k := k1) hk_k1 (j := k1 + 1) rfl dX5_copy_22 ?_
  refine lv_iload_n C.1.1 C.1.2.1 dX5_copy_25 rfl (lv_at hl 2 rfl) ?_
  obtain ⟨h_1, hF⟩ := chk_some hF
  refine x_rI C X (k := k1 + 1) (xs_5_0 hk_k1).1 (n := 8) (xs_5_0 hk_k1).2  (inb_vp h_1) rfl dX5_copy_26 ?_
  obtain ⟨h_2, hF⟩ := chk_some hF
  obtain ⟨S1, eS1, hF⟩ := lt_some hF
  refine x_wI C O X (k := k0 + 1) (xs_5_0 hk_k0).1 (n := 8) (xs_5_0 hk_k0).2  (inb_vp h_2) rfl eS1 dX5_copy_27 (fun H locs X => ?_)
  refine lv_aload_n C.1.1 C.1.2.1 dX5_copy_28 rfl (lv_at hl 0 rfl) ?_
  refine xg_X5_15 C O X (k := k0) hk_k0 (j := k0 + 2) rfl dX5_copy_29 ?_
  refine lv_iload_n C.1.1 C.1.2.1 dX5_copy_32 rfl (lv_at hl 2 rfl) ?_
  refine lv_aload_n C.1.1 C.1.2.1 dX5_copy_33 rfl (lv_at hl 1 rfl) ?_
  refine xg_X5_15 C O X (k := k1) hk_k1 (j := k1 + 2) rfl dX5_copy_34 ?_
  refine lv_iload_n C.1.1 C.1.2.1 dX5_copy_37 rfl (lv_at hl 2 rfl) ?_
  obtain ⟨h_3, hF⟩ := chk_some hF
  refine x_rI C X (k := k1 + 2) (xs_5_1 hk_k1).1 (n := 8) (xs_5_1 hk_k1).2  (inb_vp h_3) rfl dX5_copy_38 ?_
  obtain ⟨h_4, hF⟩ := chk_some hF
  obtain ⟨S2, eS2, hF⟩ := lt_some hF
  refine x_wI C O X (k := k0 + 2) (xs_5_1 hk_k0).1 (n := 8) (xs_5_1 hk_k0).2  (inb_vp h_4) rfl eS2 dX5_copy_39 (fun H locs X => ?_)
  refine lv_aload_n C.1.1 C.1.2.1 dX5_copy_40 rfl (lv_at hl 0 rfl) ?_
  refine xg_X5_18 C O X (k := k0) hk_k0 (j := k0 + 3) rfl dX5_copy_41 ?_
  refine lv_iload_n C.1.1 C.1.2.1 dX5_copy_44 rfl (lv_at hl 2 rfl) ?_
  refine lv_aload_n C.1.1 C.1.2.1 dX5_copy_45 rfl (lv_at hl 1 rfl) ?_
  refine xg_X5_18 C O X (k := k1) hk_k1 (j := k1 + 3) rfl dX5_copy_46 ?_
  refine lv_iload_n C.1.1 C.1.2.1 dX5_copy_49 rfl (lv_at hl 2 rfl) ?_
  obtain ⟨h_5, hF⟩ := chk_some hF
  refine x_rI C X (k := k1 + 3) (xs_5_2 hk_k1).1 (n := 8) (xs_5_2 hk_k1).2  (inb_vp h_5) rfl dX5_copy_50 ?_
  obtain ⟨h_6, hF⟩ := chk_some hF
  obtain ⟨S3, eS3, hF⟩ := lt_some hF
  refine x_wI C O X (k := k0 + 3) (xs_5_2 hk_k0).1 (n := 8) (xs_5_2 hk_k0).2  (inb_vp h_6) rfl eS3 dX5_copy_51 (fun H locs X => ?_)
  refine lv_iinc (v := (x2 + 1 : Int32)) (lv' := [(2, .int ((x2 + 1 : Int32))), (0, .ref (g k0)), (1, .ref (g k1))]) C.1.1 C.1.2.1 dX5_copy_52 hl (k := 2) rfl rfl (by decide) rfl (fun ls hl => ?_)
  refine lv_goto (tgt := 10) C.1.1 C.1.2.1 dX5_copy_55 (by decide) ?_
  exact K10 _ _ _ (hk_k0 : xk k0 = 5) (hk_k1 : xk k1 = 5) _ _ _ _ X (lv_sub hl [1, 2, 0] rfl) hF
noncomputable def fX5_copy_b10 (N : Nat) (r10 : Nat → Nat → Int32 → gS → Option (Int32 × gS)) (k0 : Nat) (k1 : Nat) (x2 : Int32) (S : gS) : Option (Int32 × gS) := if 8 ≤ x2 then fX5_copy_b58 N S else fX5_copy_b16 N r10 k0 k1 x2 S
theorem bX5_copy_10 {N : Nat} {r10 : Nat → Nat → Int32 → gS → Option (Int32 × gS)} {k0 : Nat} {k1 : Nat} {x2 : Int32} {S : gS} {H : Heap} {locs : List Loc} {ls : Array Slot} {o : Int32 × gS} (C : gC p s m args meth c cX5_copy 3 RX5 none D (xtys cI cB cZ cQ) xord g Am) (O : xO g cI cB cZ cQ Am) (K10 : ∀ (k0 : Nat) (k1 : Nat) (x2 : Int32) (hk_k0 : xk k0 = 5) (hk_k1 : xk k1 = 5) (S : gS) (H : Heap) (locs : List Loc) (ls : Array Slot), gX D (xcell g cI cB cZ cQ) xord g S s H locs → lv_has ls 3 [(0, .ref (g k0)), (1, .ref (g k1)), (2, .int x2)] → r10 k0 k1 x2 S = some o → W p l e (rmd 0) s m args below meth c H locs 0 0 (gE below args s D (xtys cI cB cZ cQ) (xcell g cI cB cZ cQ) xord g none o.2) (F0 m 10 ls [])) (hk_k0 : xk k0 = 5) (hk_k1 : xk k1 = 5) (X : gX D (xcell g cI cB cZ cQ) xord g S s H locs) (hl : lv_has ls 3 [(0, .ref (g k0)), (1, .ref (g k1)), (2, .int x2)]) (hF : fX5_copy_b10 N r10 k0 k1 x2 S = some o) : W p l e (rmd 0) s m args below meth c H locs 0 0 (gE below args s D (xtys cI cB cZ cQ) (xcell g cI cB cZ cQ) xord g none o.2) (F0 m 10 ls []) := by
  unfold fX5_copy_b10 at hF
  refine lv_iload_n C.1.1 C.1.2.1 dX5_copy_10 rfl (lv_at hl 2 rfl) ?_
  refine lv_bipush (v := 8) C.1.1 C.1.2.1 dX5_copy_11 (by decide) ?_
  refine lv_icmp_ge (tgt := 58) C.1.1 C.1.2.1 dX5_copy_13 (by decide) (fun h_z => ?_) (fun h_z => ?_)
  · rw [if_pos h_z] at hF
    exact bX5_copy_58 C O X (lv_sub hl [] rfl) hF
  · rw [if_neg h_z] at hF
    exact bX5_copy_16 C O K10 (hk_k0 : xk k0 = 5) (hk_k1 : xk k1 = 5) X (lv_sub hl [0, 1, 2] rfl) hF
noncomputable def fX5_copy_h10 (N : Nat) : Nat → Nat → Nat → Int32 → gS → Option (Int32 × gS)
  | 0, _, _, _, _ => none
  | n + 1, k0, k1, x2, S => fX5_copy_b10 N (fX5_copy_h10 N n) k0 k1 x2 S
theorem hX5_copy_10 {N : Nat} {o : Int32 × gS} (C : gC p s m args meth c cX5_copy 3 RX5 none D (xtys cI cB cZ cQ) xord g Am) (O : xO g cI cB cZ cQ Am) : ∀ (n : Nat) (k0 : Nat) (k1 : Nat) (x2 : Int32) (hk_k0 : xk k0 = 5) (hk_k1 : xk k1 = 5) (S : gS) (H : Heap) (locs : List Loc) (ls : Array Slot), gX D (xcell g cI cB cZ cQ) xord g S s H locs → lv_has ls 3 [(0, .ref (g k0)), (1, .ref (g k1)), (2, .int x2)] → fX5_copy_h10 N n k0 k1 x2 S = some o → W p l e (rmd 0) s m args below meth c H locs 0 0 (gE below args s D (xtys cI cB cZ cQ) (xcell g cI cB cZ cQ) xord g none o.2) (F0 m 10 ls []) := by
  intro n
  induction n with
  | zero =>
    intro k0 k1 x2 hk_k0 hk_k1 S H locs ls X hl hF
    exact absurd (show (none : Option (Int32 × gS)) = some o from hF) (by simp)
  | succ n ih =>
    intro k0 k1 x2 hk_k0 hk_k1 S H locs ls X hl hF
    have hF : fX5_copy_b10 N (fX5_copy_h10 N n) k0 k1 x2 S = some o := hF
    exact bX5_copy_10 C O ih hk_k0 hk_k1 X hl hF
noncomputable def fX5_copy_b0 (N : Nat) (k0 : Nat) (k1 : Nat) (S : gS) : Option (Int32 × gS) := lt (sU S k0 3 (S k1 3)) fun S1 => (fX5_copy_h10 N N k0 k1 0 S1)
theorem bX5_copy_0 {N : Nat} {k0 : Nat} {k1 : Nat} {S : gS} {H : Heap} {locs : List Loc} {ls : Array Slot} {o : Int32 × gS} (C : gC p s m args meth c cX5_copy 3 RX5 none D (xtys cI cB cZ cQ) xord g Am) (O : xO g cI cB cZ cQ Am) (hk_k0 : xk k0 = 5) (hk_k1 : xk k1 = 5) (X : gX D (xcell g cI cB cZ cQ) xord g S s H locs) (hl : lv_has ls 3 [(0, .ref (g k0)), (1, .ref (g k1))]) (hF : fX5_copy_b0 N k0 k1 S = some o) : W p l e (rmd 0) s m args below meth c H locs 0 0 (gE below args s D (xtys cI cB cZ cQ) (xcell g cI cB cZ cQ) xord g none o.2) (F0 m 0 ls []) := by
  unfold fX5_copy_b0 at hF
  refine lv_aload_n C.1.1 C.1.2.1 dX5_copy_0 rfl (lv_at hl 0 rfl) ?_
  refine lv_aload_n C.1.1 C.1.2.1 dX5_copy_1 rfl (lv_at hl 1 rfl) ?_
  refine xg_X5_21 C O X (k := k1) hk_k1 dX5_copy_2 ?_
  obtain ⟨S1, eS1, hF⟩ := lt_some hF
  refine xp_X5_21 C O X (k := k0) hk_k0 eS1 dX5_copy_5 (fun H locs X => ?_)
  refine lv_iconst (v := 0) C.1.1 C.1.2.1 dX5_copy_8 (by decide) ?_
  refine lv_istore_n (lv' := [(2, .int 0), (0, .ref (g k0)), (1, .ref (g k1))]) C.1.1 C.1.2.1 dX5_copy_9 rfl hl (by decide) rfl (fun ls hl => ?_)
  exact hX5_copy_10 C O N _ _ _ (hk_k0 : xk k0 = 5) (hk_k1 : xk k1 = 5) _ _ _ _ X (lv_sub hl [1, 2, 0] rfl) hF
noncomputable def fX5_copy (N : Nat) (k0 : Nat) (k1 : Nat) (S : gS) : Option (Int32 × gS) := fX5_copy_b0 N k0 k1 S
theorem kX5_copy {l : Launch} {D : va_G} {g : Nat → Nat} {cI cB cZ cQ : ClassId} {Am : (Nat → Prop) → State → Heap → Prop} (O : xO g cI cB cZ cQ Am) (P : gAm Am) (N : Nat) (k0 : Nat) (k1 : Nat) (hk_k0 : xk k0 = 5) (hk_k1 : xk k1 = 5) (S : gS) (o : Int32 × gS) (hF : fX5_copy N k0 k1 S = some o) : gM l yX5_copy cX5_copy 3 none 0 D (xtys cI cB cZ cQ) (xcell g cI cB cZ cQ) xord g Am [.ref (g k0), .ref (g k1)] S none o.2 :=
  gM_of O.1 P (by decide) (Nat.le_of_ble_eq_true rfl) (fun p e s m args below meth c ls C X hl => bX5_copy_0 C O hk_k0 hk_k1 X (lv_sub hl [0, 1] rfl) hF)
-- X6.behind
noncomputable def fX6_behind_b24 (N : Nat) (t0 : Int32) (S : gS) : Option (Int32 × gS) := some (t0, S)
theorem bX6_behind_24 {N : Nat} {t0 : Int32} {S : gS} {H : Heap} {locs : List Loc} {ls : Array Slot} {o : Int32 × gS} (C : gC p s m args meth c cX6_behind 4 RX6 ((some .int)) D (xtys cI cB cZ cQ) xord g Am) (O : xO g cI cB cZ cQ Am) (X : gX D (xcell g cI cB cZ cQ) xord g S s H locs) (hl : lv_has ls 4 []) (hF : fX6_behind_b24 N t0 S = some o) : W p l e (rmd 0) s m args below meth c H locs 0 0 (gE below args s D (xtys cI cB cZ cQ) (xcell g cI cB cZ cQ) xord g (some (.int o.1)) o.2) (F0 m 24 ls [.int t0]) := by
  unfold fX6_behind_b24 at hF
  cases hF
  exact g_iret C X dX6_behind_24
noncomputable def fX6_behind_b14 (N : Nat) (x2 : Int32) (x3 : Int32) (S : gS) : Option (Int32 × gS) := chk (inb ((x2 + 1 : Int32)) 7) (lt (53 + 1 + Int32.toNatClampNeg ((x2 + 1 : Int32))) fun T1 => (chk (inb x3 256) (fX6_behind_b24 N (S T1 (Int32.toNatClampNeg x3)) S)))
theorem bX6_behind_14 {N : Nat} {x2 : Int32} {x3 : Int32} {S : gS} {H : Heap} {locs : List Loc} {ls : Array Slot} {o : Int32 × gS} (C : gC p s m args meth c cX6_behind 4 RX6 ((some .int)) D (xtys cI cB cZ cQ) xord g Am) (O : xO g cI cB cZ cQ Am) (X : gX D (xcell g cI cB cZ cQ) xord g S s H locs) (hl : lv_has ls 4 [(0, .ref (g 52)), (2, .int x2), (3, .int x3)]) (hF : fX6_behind_b14 N x2 x3 S = some o) : W p l e (rmd 0) s m args below meth c H locs 0 0 (gE below args s D (xtys cI cB cZ cQ) (xcell g cI cB cZ cQ) xord g (some (.int o.1)) o.2) (F0 m 14 ls []) := by
  unfold fX6_behind_b14 at hF
  refine lv_aload_n C.1.1 C.1.2.1 dX6_behind_14 rfl (lv_at hl 0 rfl) ?_
  refine xg_X6_13 C O X (k := 52) rfl (j := 53) rfl dX6_behind_15 ?_
  refine lv_iload_n C.1.1 C.1.2.1 dX6_behind_18 rfl (lv_at hl 1 rfl) ?_
  refine lv_iconst (v := 1) C.1.1 C.1.2.1 dX6_behind_19 (by decide) ?_
  refine lv_iadd C.1.1 C.1.2.1 dX6_behind_20 ?_
  obtain ⟨h_1, hF⟩ := chk_some hF
  obtain ⟨T1, eT1, hF⟩ := lt_some hF
  have hk_T1 : xk T1 = 20 ∧ xN T1 = 256 := xq_53 (inb_vp h_1) eT1
  refine x_rQ C X (k := 53) rfl (n := 7) rfl (inb_vp h_1) eT1.symm dX6_behind_21 ?_
  refine lv_iload_n C.1.1 C.1.2.1 dX6_behind_22 rfl (lv_at hl 2 rfl) ?_
  obtain ⟨h_2, hF⟩ := chk_some hF
  refine x_rI C X (k := T1) hk_T1.1 (n := 256) hk_T1.2  (inb_vp h_2) rfl dX6_behind_23 ?_
  exact bX6_behind_24 C O X (lv_sub hl [] rfl) hF
noncomputable def fX6_behind_b10 (N : Nat) (S : gS) : Option (Int32 × gS) := fX6_behind_b24 N 0 S
theorem bX6_behind_10 {N : Nat} {S : gS} {H : Heap} {locs : List Loc} {ls : Array Slot} {o : Int32 × gS} (C : gC p s m args meth c cX6_behind 4 RX6 ((some .int)) D (xtys cI cB cZ cQ) xord g Am) (O : xO g cI cB cZ cQ Am) (X : gX D (xcell g cI cB cZ cQ) xord g S s H locs) (hl : lv_has ls 4 []) (hF : fX6_behind_b10 N S = some o) : W p l e (rmd 0) s m args below meth c H locs 0 0 (gE below args s D (xtys cI cB cZ cQ) (xcell g cI cB cZ cQ) xord g (some (.int o.1)) o.2) (F0 m 10 ls []) := by
  unfold fX6_behind_b10 at hF
  refine lv_iconst (v := 0) C.1.1 C.1.2.1 dX6_behind_10 (by decide) ?_
  refine lv_goto (tgt := 24) C.1.1 C.1.2.1 dX6_behind_11 (by decide) ?_
  exact bX6_behind_24 C O X (lv_sub hl [] rfl) hF
noncomputable def fX6_behind_b0 (N : Nat) (k1 : Nat) (x2 : Int32) (x3 : Int32) (S : gS) : Option (Int32 × gS) := if ((x2 + 1 : Int32)) < (S k1 5) then fX6_behind_b14 N x2 x3 S else fX6_behind_b10 N S
theorem bX6_behind_0 {N : Nat} {k1 : Nat} {x2 : Int32} {x3 : Int32} {S : gS} {H : Heap} {locs : List Loc} {ls : Array Slot} {o : Int32 × gS} (C : gC p s m args meth c cX6_behind 4 RX6 ((some .int)) D (xtys cI cB cZ cQ) xord g Am) (O : xO g cI cB cZ cQ Am) (hk_k1 : xk k1 = 9) (X : gX D (xcell g cI cB cZ cQ) xord g S s H locs) (hl : lv_has ls 4 [(0, .ref (g 52)), (1, .ref (g k1)), (2, .int x2), (3, .int x3)]) (hF : fX6_behind_b0 N k1 x2 x3 S = some o) : W p l e (rmd 0) s m args below meth c H locs 0 0 (gE below args s D (xtys cI cB cZ cQ) (xcell g cI cB cZ cQ) xord g (some (.int o.1)) o.2) (F0 m 0 ls []) := by
  unfold fX6_behind_b0 at hF
  refine lv_iload_n C.1.1 C.1.2.1 dX6_behind_0 rfl (lv_at hl 2 rfl) ?_
  refine lv_iconst (v := 1) C.1.1 C.1.2.1 dX6_behind_1 (by decide) ?_
  refine lv_iadd C.1.1 C.1.2.1 dX6_behind_2 ?_
  refine lv_aload_n C.1.1 C.1.2.1 dX6_behind_3 rfl (lv_at hl 1 rfl) ?_
  refine xg_X6_27 C O X (k := k1) hk_k1 dX6_behind_4 ?_
  refine lv_icmp_lt (tgt := 14) C.1.1 C.1.2.1 dX6_behind_7 (by decide) (fun h_z => ?_) (fun h_z => ?_)
  · rw [if_pos h_z] at hF
    exact bX6_behind_14 C O X (lv_sub hl [0, 2, 3] rfl) hF
  · rw [if_neg h_z] at hF
    exact bX6_behind_10 C O X (lv_sub hl [] rfl) hF
noncomputable def fX6_behind (N : Nat) (k1 : Nat) (x2 : Int32) (x3 : Int32) (S : gS) : Option (Int32 × gS) := fX6_behind_b0 N k1 x2 x3 S
theorem kX6_behind {l : Launch} {D : va_G} {g : Nat → Nat} {cI cB cZ cQ : ClassId} {Am : (Nat → Prop) → State → Heap → Prop} (O : xO g cI cB cZ cQ Am) (P : gAm Am) (N : Nat) (k1 : Nat) (x2 : Int32) (x3 : Int32) (hk_k1 : xk k1 = 9) (S : gS) (o : Int32 × gS) (hF : fX6_behind N k1 x2 x3 S = some o) : gM l yX6_behind cX6_behind 4 ((some .int)) 0 D (xtys cI cB cZ cQ) (xcell g cI cB cZ cQ) xord g Am [.ref (g 52), .ref (g k1), .int x2, .int x3] S (some (.int o.1)) o.2 :=
  gM_of O.1 P (by decide) (Nat.le_of_ble_eq_true rfl) (fun p e s m args below meth c ls C X hl => bX6_behind_0 C O hk_k1 X (lv_sub hl [0, 1, 2, 3] rfl) hF)
-- X7.begin
noncomputable def fX7_begin_b69 (N : Nat) (S : gS) : Option (Int32 × gS) := some (0, S)
theorem bX7_begin_69 {N : Nat} {S : gS} {H : Heap} {locs : List Loc} {ls : Array Slot} {o : Int32 × gS} (C : gC p s m args meth c cX7_begin 3 RX7 none D (xtys cI cB cZ cQ) xord g Am) (O : xO g cI cB cZ cQ Am) (X : gX D (xcell g cI cB cZ cQ) xord g S s H locs) (hl : lv_has ls 3 []) (hF : fX7_begin_b69 N S = some o) : W p l e (rmd 0) s m args below meth c H locs 0 0 (gE below args s D (xtys cI cB cZ cQ) (xcell g cI cB cZ cQ) xord g none o.2) (F0 m 69 ls []) := by
  unfold fX7_begin_b69 at hF
  cases hF
  exact g_vret C X dX7_begin_69
noncomputable def fX7_begin_b20 (N : Nat) (r12 : Nat → Nat → Int32 → gS → Option (Int32 × gS)) (k0 : Nat) (k1 : Nat) (x2 : Int32) (S : gS) : Option (Int32 × gS) := chk (inb x2 6) (chk (inb x2 6) (lt (sU S (k0 + 1) (Int32.toNatClampNeg x2) (S (k1 + 6) (Int32.toNatClampNeg x2))) fun S1 => (chk (inb x2 6) (chk (inb x2 6) (lt (sU S1 (k0 + 2) (Int32.toNatClampNeg x2) (S1 (k1 + 7) (Int32.toNatClampNeg x2))) fun S2 => (chk (inb x2 6) (lt (sU S2 (k0 + 3) (Int32.toNatClampNeg x2) 0) fun S3 => (chk (inb x2 6) (chk (inb x2 6) (lt (sU S3 (k0 + 4) (Int32.toNatClampNeg x2) (S3 (k1 + 8) (Int32.toNatClampNeg x2))) fun S4 => (r12 k0 k1 ((x2 + 1 : Int32)) S4)))))))))))
theorem bX7_begin_20 {N : Nat} {r12 : Nat → Nat → Int32 → gS → Option (Int32 × gS)} {k0 : Nat} {k1 : Nat} {x2 : Int32} {S : gS} {H : Heap} {locs : List Loc} {ls : Array Slot} {o : Int32 × gS} (C : gC p s m args meth c cX7_begin 3 RX7 none D (xtys cI cB cZ cQ) xord g Am) (O : xO g cI cB cZ cQ Am) (K12 : ∀ (k0 : Nat) (k1 : Nat) (x2 : Int32) (hk_k0 : xk k0 = 7) (hk_k1 : xk k1 = 9) (S : gS) (H : Heap) (locs : List Loc) (ls : Array Slot), gX D (xcell g cI cB cZ cQ) xord g S s H locs → lv_has ls 3 [(0, .ref (g k0)), (1, .ref (g k1)), (2, .int x2)] → r12 k0 k1 x2 S = some o → W p l e (rmd 0) s m args below meth c H locs 0 0 (gE below args s D (xtys cI cB cZ cQ) (xcell g cI cB cZ cQ) xord g none o.2) (F0 m 12 ls [])) (hk_k0 : xk k0 = 7) (hk_k1 : xk k1 = 9) (X : gX D (xcell g cI cB cZ cQ) xord g S s H locs) (hl : lv_has ls 3 [(0, .ref (g k0)), (1, .ref (g k1)), (2, .int x2)]) (hF : fX7_begin_b20 N r12 k0 k1 x2 S = some o) : W p l e (rmd 0) s m args below meth c H locs 0 0 (gE below args s D (xtys cI cB cZ cQ) (xcell g cI cB cZ cQ) xord g none o.2) (F0 m 20 ls []) := by
  unfold fX7_begin_b20 at hF
  refine lv_aload_n C.1.1 C.1.2.1 dX7_begin_20 rfl (lv_at hl 0 rfl) ?_
  refine xg_X7_18 C O X (k := k0) hk_k0 (j := k0 + 1) rfl dX7_begin_21 ?_
  refine lv_iload_n C.1.1 C.1.2.1 dX7_begin_24 rfl (lv_at hl 2 rfl) ?_
  refine lv_aload_n C.1.1 C.1.2.1 dX7_begin_25 rfl (lv_at hl 1 rfl) ?_
  refine xg_X7_36 C O X (k := k1) hk_k1 (j := k1 + 6) rfl dX7_begin_26 ?_
  refine lv_iload_n C.1.1 C.1.2.1 dX7_begin_29 rfl (lv_at hl 2 rfl) ?_
  obtain ⟨h_1, hF⟩ := chk_some hF
  refine x_rI C X (k := k1 + 6) (xs_9_7 hk_k1).1 (n := 6) (xs_9_7 hk_k1).2  (inb_vp h_1) rfl dX7_begin_30 ?_
  obtain ⟨h_2, hF⟩ := chk_some hF
  obtain ⟨S1, eS1, hF⟩ := lt_some hF
  refine x_wI C O X (k := k0 + 1) (xs_7_2 hk_k0).1 (n := 6) (xs_7_2 hk_k0).2  (inb_vp h_2) rfl eS1 dX7_begin_31 (fun H locs X => ?_)
  refine lv_aload_n C.1.1 C.1.2.1 dX7_begin_32 rfl (lv_at hl 0 rfl) ?_
  refine xg_X7_22 C O X (k := k0) hk_k0 (j := k0 + 2) rfl dX7_begin_33 ?_
  refine lv_iload_n C.1.1 C.1.2.1 dX7_begin_36 rfl (lv_at hl 2 rfl) ?_
  refine lv_aload_n C.1.1 C.1.2.1 dX7_begin_37 rfl (lv_at hl 1 rfl) ?_
  refine xg_X7_37 C O X (k := k1) hk_k1 (j := k1 + 7) rfl dX7_begin_38 ?_
  refine lv_iload_n C.1.1 C.1.2.1 dX7_begin_41 rfl (lv_at hl 2 rfl) ?_
  obtain ⟨h_3, hF⟩ := chk_some hF
  refine x_rI C X (k := k1 + 7) (xs_9_8 hk_k1).1 (n := 6) (xs_9_8 hk_k1).2  (inb_vp h_3) rfl dX7_begin_42 ?_
  obtain ⟨h_4, hF⟩ := chk_some hF
  obtain ⟨S2, eS2, hF⟩ := lt_some hF
  refine x_wI C O X (k := k0 + 2) (xs_7_3 hk_k0).1 (n := 6) (xs_7_3 hk_k0).2  (inb_vp h_4) rfl eS2 dX7_begin_43 (fun H locs X => ?_)
  refine lv_aload_n C.1.1 C.1.2.1 dX7_begin_44 rfl (lv_at hl 0 rfl) ?_
  refine xg_X7_25 C O X (k := k0) hk_k0 (j := k0 + 3) rfl dX7_begin_45 ?_
  refine lv_iload_n C.1.1 C.1.2.1 dX7_begin_48 rfl (lv_at hl 2 rfl) ?_
  refine lv_iconst (v := 0) C.1.1 C.1.2.1 dX7_begin_49 (by decide) ?_
  obtain ⟨h_5, hF⟩ := chk_some hF
  obtain ⟨S3, eS3, hF⟩ := lt_some hF
  refine x_wI C O X (k := k0 + 3) (xs_7_4 hk_k0).1 (n := 6) (xs_7_4 hk_k0).2  (inb_vp h_5) rfl eS3 dX7_begin_50 (fun H locs X => ?_)
  refine lv_aload_n C.1.1 C.1.2.1 dX7_begin_51 rfl (lv_at hl 0 rfl) ?_
  refine xg_X7_28 C O X (k := k0) hk_k0 (j := k0 + 4) rfl dX7_begin_52 ?_
  refine lv_iload_n C.1.1 C.1.2.1 dX7_begin_55 rfl (lv_at hl 2 rfl) ?_
  refine lv_aload_n C.1.1 C.1.2.1 dX7_begin_56 rfl (lv_at hl 1 rfl) ?_
  refine xg_X7_38 C O X (k := k1) hk_k1 (j := k1 + 8) rfl dX7_begin_57 ?_
  refine lv_iload_n C.1.1 C.1.2.1 dX7_begin_60 rfl (lv_at hl 2 rfl) ?_
  obtain ⟨h_6, hF⟩ := chk_some hF
  refine x_rI C X (k := k1 + 8) (xs_9_9 hk_k1).1 (n := 6) (xs_9_9 hk_k1).2  (inb_vp h_6) rfl dX7_begin_61 ?_
  obtain ⟨h_7, hF⟩ := chk_some hF
  obtain ⟨S4, eS4, hF⟩ := lt_some hF
  refine x_wI C O X (k := k0 + 4) (xs_7_5 hk_k0).1 (n := 6) (xs_7_5 hk_k0).2  (inb_vp h_7) rfl eS4 dX7_begin_62 (fun H locs X => ?_)
  refine lv_iinc (v := (x2 + 1 : Int32)) (lv' := [(2, .int ((x2 + 1 : Int32))), (0, .ref (g k0)), (1, .ref (g k1))]) C.1.1 C.1.2.1 dX7_begin_63 hl (k := 2) rfl rfl (by decide) rfl (fun ls hl => ?_)
  refine lv_goto (tgt := 12) C.1.1 C.1.2.1 dX7_begin_66 (by decide) ?_
  exact K12 _ _ _ (hk_k0 : xk k0 = 7) (hk_k1 : xk k1 = 9) _ _ _ _ X (lv_sub hl [1, 2, 0] rfl) hF
noncomputable def fX7_begin_b12 (N : Nat) (r12 : Nat → Nat → Int32 → gS → Option (Int32 × gS)) (k0 : Nat) (k1 : Nat) (x2 : Int32) (S : gS) : Option (Int32 × gS) := if (S k1 5) ≤ x2 then fX7_begin_b69 N S else fX7_begin_b20 N r12 k0 k1 x2 S
theorem bX7_begin_12 {N : Nat} {r12 : Nat → Nat → Int32 → gS → Option (Int32 × gS)} {k0 : Nat} {k1 : Nat} {x2 : Int32} {S : gS} {H : Heap} {locs : List Loc} {ls : Array Slot} {o : Int32 × gS} (C : gC p s m args meth c cX7_begin 3 RX7 none D (xtys cI cB cZ cQ) xord g Am) (O : xO g cI cB cZ cQ Am) (K12 : ∀ (k0 : Nat) (k1 : Nat) (x2 : Int32) (hk_k0 : xk k0 = 7) (hk_k1 : xk k1 = 9) (S : gS) (H : Heap) (locs : List Loc) (ls : Array Slot), gX D (xcell g cI cB cZ cQ) xord g S s H locs → lv_has ls 3 [(0, .ref (g k0)), (1, .ref (g k1)), (2, .int x2)] → r12 k0 k1 x2 S = some o → W p l e (rmd 0) s m args below meth c H locs 0 0 (gE below args s D (xtys cI cB cZ cQ) (xcell g cI cB cZ cQ) xord g none o.2) (F0 m 12 ls [])) (hk_k0 : xk k0 = 7) (hk_k1 : xk k1 = 9) (X : gX D (xcell g cI cB cZ cQ) xord g S s H locs) (hl : lv_has ls 3 [(0, .ref (g k0)), (1, .ref (g k1)), (2, .int x2)]) (hF : fX7_begin_b12 N r12 k0 k1 x2 S = some o) : W p l e (rmd 0) s m args below meth c H locs 0 0 (gE below args s D (xtys cI cB cZ cQ) (xcell g cI cB cZ cQ) xord g none o.2) (F0 m 12 ls []) := by
  unfold fX7_begin_b12 at hF
  refine lv_iload_n C.1.1 C.1.2.1 dX7_begin_12 rfl (lv_at hl 2 rfl) ?_
  refine lv_aload_n C.1.1 C.1.2.1 dX7_begin_13 rfl (lv_at hl 1 rfl) ?_
  refine xg_X7_31 C O X (k := k1) hk_k1 dX7_begin_14 ?_
  refine lv_icmp_ge (tgt := 69) C.1.1 C.1.2.1 dX7_begin_17 (by decide) (fun h_z => ?_) (fun h_z => ?_)
  · rw [if_pos h_z] at hF
    exact bX7_begin_69 C O X (lv_sub hl [] rfl) hF
  · rw [if_neg h_z] at hF
    exact bX7_begin_20 C O K12 (hk_k0 : xk k0 = 7) (hk_k1 : xk k1 = 9) X (lv_sub hl [0, 1, 2] rfl) hF
noncomputable def fX7_begin_h12 (N : Nat) : Nat → Nat → Nat → Int32 → gS → Option (Int32 × gS)
  | 0, _, _, _, _ => none
  | n + 1, k0, k1, x2, S => fX7_begin_b12 N (fX7_begin_h12 N n) k0 k1 x2 S
theorem hX7_begin_12 {N : Nat} {o : Int32 × gS} (C : gC p s m args meth c cX7_begin 3 RX7 none D (xtys cI cB cZ cQ) xord g Am) (O : xO g cI cB cZ cQ Am) : ∀ (n : Nat) (k0 : Nat) (k1 : Nat) (x2 : Int32) (hk_k0 : xk k0 = 7) (hk_k1 : xk k1 = 9) (S : gS) (H : Heap) (locs : List Loc) (ls : Array Slot), gX D (xcell g cI cB cZ cQ) xord g S s H locs → lv_has ls 3 [(0, .ref (g k0)), (1, .ref (g k1)), (2, .int x2)] → fX7_begin_h12 N n k0 k1 x2 S = some o → W p l e (rmd 0) s m args below meth c H locs 0 0 (gE below args s D (xtys cI cB cZ cQ) (xcell g cI cB cZ cQ) xord g none o.2) (F0 m 12 ls []) := by
  intro n
  induction n with
  | zero =>
    intro k0 k1 x2 hk_k0 hk_k1 S H locs ls X hl hF
    exact absurd (show (none : Option (Int32 × gS)) = some o from hF) (by simp)
  | succ n ih =>
    intro k0 k1 x2 hk_k0 hk_k1 S H locs ls X hl hF
    have hF : fX7_begin_b12 N (fX7_begin_h12 N n) k0 k1 x2 S = some o := hF
    exact bX7_begin_12 C O ih hk_k0 hk_k1 X hl hF
noncomputable def fX7_begin_b0 (N : Nat) (k0 : Nat) (k1 : Nat) (S : gS) : Option (Int32 × gS) := lt (sU S k0 0 0) fun S1 => (lt (sU S1 k0 1 0) fun S2 => (fX7_begin_h12 N N k0 k1 0 S2))
theorem bX7_begin_0 {N : Nat} {k0 : Nat} {k1 : Nat} {S : gS} {H : Heap} {locs : List Loc} {ls : Array Slot} {o : Int32 × gS} (C : gC p s m args meth c cX7_begin 3 RX7 none D (xtys cI cB cZ cQ) xord g Am) (O : xO g cI cB cZ cQ Am) (hk_k0 : xk k0 = 7) (hk_k1 : xk k1 = 9) (X : gX D (xcell g cI cB cZ cQ) xord g S s H locs) (hl : lv_has ls 3 [(0, .ref (g k0)), (1, .ref (g k1))]) (hF : fX7_begin_b0 N k0 k1 S = some o) : W p l e (rmd 0) s m args below meth c H locs 0 0 (gE below args s D (xtys cI cB cZ cQ) (xcell g cI cB cZ cQ) xord g none o.2) (F0 m 0 ls []) := by
  unfold fX7_begin_b0 at hF
  refine lv_aload_n C.1.1 C.1.2.1 dX7_begin_0 rfl (lv_at hl 0 rfl) ?_
  refine lv_iconst (v := 0) C.1.1 C.1.2.1 dX7_begin_1 (by decide) ?_
  obtain ⟨S1, eS1, hF⟩ := lt_some hF
  refine xp_X7_9 C O X (k := k0) hk_k0 eS1 dX7_begin_2 (fun H locs X => ?_)
  refine lv_aload_n C.1.1 C.1.2.1 dX7_begin_5 rfl (lv_at hl 0 rfl) ?_
  refine lv_iconst (v := 0) C.1.1 C.1.2.1 dX7_begin_6 (by decide) ?_
  obtain ⟨S2, eS2, hF⟩ := lt_some hF
  refine xp_X7_15 C O X (k := k0) hk_k0 eS2 dX7_begin_7 (fun H locs X => ?_)
  refine lv_iconst (v := 0) C.1.1 C.1.2.1 dX7_begin_10 (by decide) ?_
  refine lv_istore_n (lv' := [(2, .int 0), (0, .ref (g k0)), (1, .ref (g k1))]) C.1.1 C.1.2.1 dX7_begin_11 rfl hl (by decide) rfl (fun ls hl => ?_)
  exact hX7_begin_12 C O N _ _ _ (hk_k0 : xk k0 = 7) (hk_k1 : xk k1 = 9) _ _ _ _ X (lv_sub hl [1, 2, 0] rfl) hF
noncomputable def fX7_begin (N : Nat) (k0 : Nat) (k1 : Nat) (S : gS) : Option (Int32 × gS) := fX7_begin_b0 N k0 k1 S
theorem kX7_begin {l : Launch} {D : va_G} {g : Nat → Nat} {cI cB cZ cQ : ClassId} {Am : (Nat → Prop) → State → Heap → Prop} (O : xO g cI cB cZ cQ Am) (P : gAm Am) (N : Nat) (k0 : Nat) (k1 : Nat) (hk_k0 : xk k0 = 7) (hk_k1 : xk k1 = 9) (S : gS) (o : Int32 × gS) (hF : fX7_begin N k0 k1 S = some o) : gM l yX7_begin cX7_begin 3 none 0 D (xtys cI cB cZ cQ) (xcell g cI cB cZ cQ) xord g Am [.ref (g k0), .ref (g k1)] S none o.2 :=
  gM_of O.1 P (by decide) (Nat.le_of_ble_eq_true rfl) (fun p e s m args below meth c ls C X hl => bX7_begin_0 C O hk_k0 hk_k1 X (lv_sub hl [0, 1] rfl) hF)
-- X7.copy
noncomputable def fX7_copy_b78 (N : Nat) (S : gS) : Option (Int32 × gS) := some (0, S)
theorem bX7_copy_78 {N : Nat} {S : gS} {H : Heap} {locs : List Loc} {ls : Array Slot} {o : Int32 × gS} (C : gC p s m args meth c cX7_copy 3 RX7 none D (xtys cI cB cZ cQ) xord g Am) (O : xO g cI cB cZ cQ Am) (X : gX D (xcell g cI cB cZ cQ) xord g S s H locs) (hl : lv_has ls 3 []) (hF : fX7_copy_b78 N S = some o) : W p l e (rmd 0) s m args below meth c H locs 0 0 (gE below args s D (xtys cI cB cZ cQ) (xcell g cI cB cZ cQ) xord g none o.2) (F0 m 78 ls []) := by
  unfold fX7_copy_b78 at hF
  cases hF
  exact g_vret C X dX7_copy_78
noncomputable def fX7_copy_b24 (N : Nat) (r18 : Nat → Nat → Int32 → gS → Option (Int32 × gS)) (k0 : Nat) (k1 : Nat) (x2 : Int32) (S : gS) : Option (Int32 × gS) := chk (inb x2 6) (chk (inb x2 6) (lt (sU S (k0 + 1) (Int32.toNatClampNeg x2) (S (k1 + 1) (Int32.toNatClampNeg x2))) fun S1 => (chk (inb x2 6) (chk (inb x2 6) (lt (sU S1 (k0 + 2) (Int32.toNatClampNeg x2) (S1 (k1 + 2) (Int32.toNatClampNeg x2))) fun S2 => (chk (inb x2 6) (chk (inb x2 6) (lt (sU S2 (k0 + 3) (Int32.toNatClampNeg x2) (S2 (k1 + 3) (Int32.toNatClampNeg x2))) fun S3 => (chk (inb x2 6) (chk (inb x2 6) (lt (sU S3 (k0 + 4) (Int32.toNatClampNeg x2) (S3 (k1 + 4) (Int32.toNatClampNeg x2))) fun S4 => (r18 k0 k1 ((x2 + 1 : Int32)) S4))))))))))))
theorem bX7_copy_24 {N : Nat} {r18 : Nat → Nat → Int32 → gS → Option (Int32 × gS)} {k0 : Nat} {k1 : Nat} {x2 : Int32} {S : gS} {H : Heap} {locs : List Loc} {ls : Array Slot} {o : Int32 × gS} (C : gC p s m args meth c cX7_copy 3 RX7 none D (xtys cI cB cZ cQ) xord g Am) (O : xO g cI cB cZ cQ Am) (K18 : ∀ (k0 : Nat) (k1 : Nat) (x2 : Int32) (hk_k0 : xk k0 = 7) (hk_k1 : xk k1 = 7) (S : gS) (H : Heap) (locs : List Loc) (ls : Array Slot), gX D (xcell g cI cB cZ cQ) xord g S s H locs → lv_has ls 3 [(0, .ref (g k0)), (1, .ref (g k1)), (2, .int x2)] → r18 k0 k1 x2 S = some o → W p l e (rmd 0) s m args below meth c H locs 0 0 (gE below args s D (xtys cI cB cZ cQ) (xcell g cI cB cZ cQ) xord g none o.2) (F0 m 18 ls [])) (hk_k0 : xk k0 = 7) (hk_k1 : xk k1 = 7) (X : gX D (xcell g cI cB cZ cQ) xord g S s H locs) (hl : lv_has ls 3 [(0, .ref (g k0)), (1, .ref (g k1)), (2, .int x2)]) (hF : fX7_copy_b24 N r18 k0 k1 x2 S = some o) : W p l e (rmd 0) s m args below meth c H locs 0 0 (gE below args s D (xtys cI cB cZ cQ) (xcell g cI cB cZ cQ) xord g none o.2) (F0 m 24 ls []) := by
  unfold fX7_copy_b24 at hF
  refine lv_aload_n C.1.1 C.1.2.1 dX7_copy_24 rfl (lv_at hl 0 rfl) ?_
  refine xg_X7_18 C O X (k := k0) hk_k0 (j := k0 + 1) rfl dX7_copy_25 ?_
  refine lv_iload_n C.1.1 C.1.2.1 dX7_copy_28 rfl (lv_at hl 2 rfl) ?_
  refine lv_aload_n C.1.1 C.1.2.1 dX7_copy_29 rfl (lv_at hl 1 rfl) ?_
  refine xg_X7_18 C O X (k := k1) hk_k1 (j := k1 + 1) rfl dX7_copy_30 ?_
  refine lv_iload_n C.1.1 C.1.2.1 dX7_copy_33 rfl (lv_at hl 2 rfl) ?_
  obtain ⟨h_1, hF⟩ := chk_some hF
  refine x_rI C X (k := k1 + 1) (xs_7_2 hk_k1).1 (n := 6) (xs_7_2 hk_k1).2  (inb_vp h_1) rfl dX7_copy_34 ?_
  obtain ⟨h_2, hF⟩ := chk_some hF
  obtain ⟨S1, eS1, hF⟩ := lt_some hF
  refine x_wI C O X (k := k0 + 1) (xs_7_2 hk_k0).1 (n := 6) (xs_7_2 hk_k0).2  (inb_vp h_2) rfl eS1 dX7_copy_35 (fun H locs X => ?_)
  refine lv_aload_n C.1.1 C.1.2.1 dX7_copy_36 rfl (lv_at hl 0 rfl) ?_
  refine xg_X7_22 C O X (k := k0) hk_k0 (j := k0 + 2) rfl dX7_copy_37 ?_
  refine lv_iload_n C.1.1 C.1.2.1 dX7_copy_40 rfl (lv_at hl 2 rfl) ?_
  refine lv_aload_n C.1.1 C.1.2.1 dX7_copy_41 rfl (lv_at hl 1 rfl) ?_
  refine xg_X7_22 C O X (k := k1) hk_k1 (j := k1 + 2) rfl dX7_copy_42 ?_
  refine lv_iload_n C.1.1 C.1.2.1 dX7_copy_45 rfl (lv_at hl 2 rfl) ?_
  obtain ⟨h_3, hF⟩ := chk_some hF
  refine x_rI C X (k := k1 + 2) (xs_7_3 hk_k1).1 (n := 6) (xs_7_3 hk_k1).2  (inb_vp h_3) rfl dX7_copy_46 ?_
  obtain ⟨h_4, hF⟩ := chk_some hF
  obtain ⟨S2, eS2, hF⟩ := lt_some hF
  refine x_wI C O X (k := k0 + 2) (xs_7_3 hk_k0).1 (n := 6) (xs_7_3 hk_k0).2  (inb_vp h_4) rfl eS2 dX7_copy_47 (fun H locs X => ?_)
  refine lv_aload_n C.1.1 C.1.2.1 dX7_copy_48 rfl (lv_at hl 0 rfl) ?_
  refine xg_X7_25 C O X (k := k0) hk_k0 (j := k0 + 3) rfl dX7_copy_49 ?_
  refine lv_iload_n C.1.1 C.1.2.1 dX7_copy_52 rfl (lv_at hl 2 rfl) ?_
  refine lv_aload_n C.1.1 C.1.2.1 dX7_copy_53 rfl (lv_at hl 1 rfl) ?_
  refine xg_X7_25 C O X (k := k1) hk_k1 (j := k1 + 3) rfl dX7_copy_54 ?_
  refine lv_iload_n C.1.1 C.1.2.1 dX7_copy_57 rfl (lv_at hl 2 rfl) ?_
  obtain ⟨h_5, hF⟩ := chk_some hF
  refine x_rI C X (k := k1 + 3) (xs_7_4 hk_k1).1 (n := 6) (xs_7_4 hk_k1).2  (inb_vp h_5) rfl dX7_copy_58 ?_
  obtain ⟨h_6, hF⟩ := chk_some hF
  obtain ⟨S3, eS3, hF⟩ := lt_some hF
  refine x_wI C O X (k := k0 + 3) (xs_7_4 hk_k0).1 (n := 6) (xs_7_4 hk_k0).2  (inb_vp h_6) rfl eS3 dX7_copy_59 (fun H locs X => ?_)
  refine lv_aload_n C.1.1 C.1.2.1 dX7_copy_60 rfl (lv_at hl 0 rfl) ?_
  refine xg_X7_28 C O X (k := k0) hk_k0 (j := k0 + 4) rfl dX7_copy_61 ?_
  refine lv_iload_n C.1.1 C.1.2.1 dX7_copy_64 rfl (lv_at hl 2 rfl) ?_
  refine lv_aload_n C.1.1 C.1.2.1 dX7_copy_65 rfl (lv_at hl 1 rfl) ?_
  refine xg_X7_28 C O X (k := k1) hk_k1 (j := k1 + 4) rfl dX7_copy_66 ?_
  refine lv_iload_n C.1.1 C.1.2.1 dX7_copy_69 rfl (lv_at hl 2 rfl) ?_
  obtain ⟨h_7, hF⟩ := chk_some hF
  refine x_rI C X (k := k1 + 4) (xs_7_5 hk_k1).1 (n := 6) (xs_7_5 hk_k1).2  (inb_vp h_7) rfl dX7_copy_70 ?_
  obtain ⟨h_8, hF⟩ := chk_some hF
  obtain ⟨S4, eS4, hF⟩ := lt_some hF
  refine x_wI C O X (k := k0 + 4) (xs_7_5 hk_k0).1 (n := 6) (xs_7_5 hk_k0).2  (inb_vp h_8) rfl eS4 dX7_copy_71 (fun H locs X => ?_)
  refine lv_iinc (v := (x2 + 1 : Int32)) (lv' := [(2, .int ((x2 + 1 : Int32))), (0, .ref (g k0)), (1, .ref (g k1))]) C.1.1 C.1.2.1 dX7_copy_72 hl (k := 2) rfl rfl (by decide) rfl (fun ls hl => ?_)
  refine lv_goto (tgt := 18) C.1.1 C.1.2.1 dX7_copy_75 (by decide) ?_
  exact K18 _ _ _ (hk_k0 : xk k0 = 7) (hk_k1 : xk k1 = 7) _ _ _ _ X (lv_sub hl [1, 2, 0] rfl) hF
noncomputable def fX7_copy_b18 (N : Nat) (r18 : Nat → Nat → Int32 → gS → Option (Int32 × gS)) (k0 : Nat) (k1 : Nat) (x2 : Int32) (S : gS) : Option (Int32 × gS) := if 6 ≤ x2 then fX7_copy_b78 N S else fX7_copy_b24 N r18 k0 k1 x2 S
theorem bX7_copy_18 {N : Nat} {r18 : Nat → Nat → Int32 → gS → Option (Int32 × gS)} {k0 : Nat} {k1 : Nat} {x2 : Int32} {S : gS} {H : Heap} {locs : List Loc} {ls : Array Slot} {o : Int32 × gS} (C : gC p s m args meth c cX7_copy 3 RX7 none D (xtys cI cB cZ cQ) xord g Am) (O : xO g cI cB cZ cQ Am) (K18 : ∀ (k0 : Nat) (k1 : Nat) (x2 : Int32) (hk_k0 : xk k0 = 7) (hk_k1 : xk k1 = 7) (S : gS) (H : Heap) (locs : List Loc) (ls : Array Slot), gX D (xcell g cI cB cZ cQ) xord g S s H locs → lv_has ls 3 [(0, .ref (g k0)), (1, .ref (g k1)), (2, .int x2)] → r18 k0 k1 x2 S = some o → W p l e (rmd 0) s m args below meth c H locs 0 0 (gE below args s D (xtys cI cB cZ cQ) (xcell g cI cB cZ cQ) xord g none o.2) (F0 m 18 ls [])) (hk_k0 : xk k0 = 7) (hk_k1 : xk k1 = 7) (X : gX D (xcell g cI cB cZ cQ) xord g S s H locs) (hl : lv_has ls 3 [(0, .ref (g k0)), (1, .ref (g k1)), (2, .int x2)]) (hF : fX7_copy_b18 N r18 k0 k1 x2 S = some o) : W p l e (rmd 0) s m args below meth c H locs 0 0 (gE below args s D (xtys cI cB cZ cQ) (xcell g cI cB cZ cQ) xord g none o.2) (F0 m 18 ls []) := by
  unfold fX7_copy_b18 at hF
  refine lv_iload_n C.1.1 C.1.2.1 dX7_copy_18 rfl (lv_at hl 2 rfl) ?_
  refine lv_bipush (v := 6) C.1.1 C.1.2.1 dX7_copy_19 (by decide) ?_
  refine lv_icmp_ge (tgt := 78) C.1.1 C.1.2.1 dX7_copy_21 (by decide) (fun h_z => ?_) (fun h_z => ?_)
  · rw [if_pos h_z] at hF
    exact bX7_copy_78 C O X (lv_sub hl [] rfl) hF
  · rw [if_neg h_z] at hF
    exact bX7_copy_24 C O K18 (hk_k0 : xk k0 = 7) (hk_k1 : xk k1 = 7) X (lv_sub hl [0, 1, 2] rfl) hF
noncomputable def fX7_copy_h18 (N : Nat) : Nat → Nat → Nat → Int32 → gS → Option (Int32 × gS)
  | 0, _, _, _, _ => none
  | n + 1, k0, k1, x2, S => fX7_copy_b18 N (fX7_copy_h18 N n) k0 k1 x2 S
theorem hX7_copy_18 {N : Nat} {o : Int32 × gS} (C : gC p s m args meth c cX7_copy 3 RX7 none D (xtys cI cB cZ cQ) xord g Am) (O : xO g cI cB cZ cQ Am) : ∀ (n : Nat) (k0 : Nat) (k1 : Nat) (x2 : Int32) (hk_k0 : xk k0 = 7) (hk_k1 : xk k1 = 7) (S : gS) (H : Heap) (locs : List Loc) (ls : Array Slot), gX D (xcell g cI cB cZ cQ) xord g S s H locs → lv_has ls 3 [(0, .ref (g k0)), (1, .ref (g k1)), (2, .int x2)] → fX7_copy_h18 N n k0 k1 x2 S = some o → W p l e (rmd 0) s m args below meth c H locs 0 0 (gE below args s D (xtys cI cB cZ cQ) (xcell g cI cB cZ cQ) xord g none o.2) (F0 m 18 ls []) := by
  intro n
  induction n with
  | zero =>
    intro k0 k1 x2 hk_k0 hk_k1 S H locs ls X hl hF
    exact absurd (show (none : Option (Int32 × gS)) = some o from hF) (by simp)
  | succ n ih =>
    intro k0 k1 x2 hk_k0 hk_k1 S H locs ls X hl hF
    have hF : fX7_copy_b18 N (fX7_copy_h18 N n) k0 k1 x2 S = some o := hF
    exact bX7_copy_18 C O ih hk_k0 hk_k1 X hl hF
noncomputable def fX7_copy_b0 (N : Nat) (k0 : Nat) (k1 : Nat) (S : gS) : Option (Int32 × gS) := lt (sU S k0 0 (S k1 0)) fun S1 => (lt (sU S1 k0 1 (S1 k1 1)) fun S2 => (fX7_copy_h18 N N k0 k1 0 S2))
theorem bX7_copy_0 {N : Nat} {k0 : Nat} {k1 : Nat} {S : gS} {H : Heap} {locs : List Loc} {ls : Array Slot} {o : Int32 × gS} (C : gC p s m args meth c cX7_copy 3 RX7 none D (xtys cI cB cZ cQ) xord g Am) (O : xO g cI cB cZ cQ Am) (hk_k0 : xk k0 = 7) (hk_k1 : xk k1 = 7) (X : gX D (xcell g cI cB cZ cQ) xord g S s H locs) (hl : lv_has ls 3 [(0, .ref (g k0)), (1, .ref (g k1))]) (hF : fX7_copy_b0 N k0 k1 S = some o) : W p l e (rmd 0) s m args below meth c H locs 0 0 (gE below args s D (xtys cI cB cZ cQ) (xcell g cI cB cZ cQ) xord g none o.2) (F0 m 0 ls []) := by
  unfold fX7_copy_b0 at hF
  refine lv_aload_n C.1.1 C.1.2.1 dX7_copy_0 rfl (lv_at hl 0 rfl) ?_
  refine lv_aload_n C.1.1 C.1.2.1 dX7_copy_1 rfl (lv_at hl 1 rfl) ?_
  refine xg_X7_9 C O X (k := k1) hk_k1 dX7_copy_2 ?_
  obtain ⟨S1, eS1, hF⟩ := lt_some hF
  refine xp_X7_9 C O X (k := k0) hk_k0 eS1 dX7_copy_5 (fun H locs X => ?_)
  refine lv_aload_n C.1.1 C.1.2.1 dX7_copy_8 rfl (lv_at hl 0 rfl) ?_
  refine lv_aload_n C.1.1 C.1.2.1 dX7_copy_9 rfl (lv_at hl 1 rfl) ?_
  refine xg_X7_15 C O X (k := k1) hk_k1 dX7_copy_10 ?_
  obtain ⟨S2, eS2, hF⟩ := lt_some hF
  refine xp_X7_15 C O X (k := k0) hk_k0 eS2 dX7_copy_13 (fun H locs X => ?_)
  refine lv_iconst (v := 0) C.1.1 C.1.2.1 dX7_copy_16 (by decide) ?_
  refine lv_istore_n (lv' := [(2, .int 0), (0, .ref (g k0)), (1, .ref (g k1))]) C.1.1 C.1.2.1 dX7_copy_17 rfl hl (by decide) rfl (fun ls hl => ?_)
  exact hX7_copy_18 C O N _ _ _ (hk_k0 : xk k0 = 7) (hk_k1 : xk k1 = 7) _ _ _ _ X (lv_sub hl [1, 2, 0] rfl) hF
noncomputable def fX7_copy (N : Nat) (k0 : Nat) (k1 : Nat) (S : gS) : Option (Int32 × gS) := fX7_copy_b0 N k0 k1 S
theorem kX7_copy {l : Launch} {D : va_G} {g : Nat → Nat} {cI cB cZ cQ : ClassId} {Am : (Nat → Prop) → State → Heap → Prop} (O : xO g cI cB cZ cQ Am) (P : gAm Am) (N : Nat) (k0 : Nat) (k1 : Nat) (hk_k0 : xk k0 = 7) (hk_k1 : xk k1 = 7) (S : gS) (o : Int32 × gS) (hF : fX7_copy N k0 k1 S = some o) : gM l yX7_copy cX7_copy 3 none 0 D (xtys cI cB cZ cQ) (xcell g cI cB cZ cQ) xord g Am [.ref (g k0), .ref (g k1)] S none o.2 :=
  gM_of O.1 P (by decide) (Nat.le_of_ble_eq_true rfl) (fun p e s m args below meth c ls C X hl => bX7_copy_0 C O hk_k0 hk_k1 X (lv_sub hl [0, 1] rfl) hF)
-- X7.write
noncomputable def fX7_write_b99 (N : Nat) (S : gS) : Option (Int32 × gS) := some (0, S)
theorem bX7_write_99 {N : Nat} {S : gS} {H : Heap} {locs : List Loc} {ls : Array Slot} {o : Int32 × gS} (C : gC p s m args meth c cX7_write 5 RX7 none D (xtys cI cB cZ cQ) xord g Am) (O : xO g cI cB cZ cQ Am) (X : gX D (xcell g cI cB cZ cQ) xord g S s H locs) (hl : lv_has ls 5 []) (hF : fX7_write_b99 N S = some o) : W p l e (rmd 0) s m args below meth c H locs 0 0 (gE below args s D (xtys cI cB cZ cQ) (xcell g cI cB cZ cQ) xord g none o.2) (F0 m 99 ls []) := by
  unfold fX7_write_b99 at hF
  cases hF
  exact g_vret C X dX7_write_99
noncomputable def fX7_write_b38 (N : Nat) (r32 : Nat → Nat → Int32 → Int32 → gS → Option (Int32 × gS)) (k0 : Nat) (k1 : Nat) (x2 : Int32) (x3 : Int32) (S : gS) : Option (Int32 × gS) := chk (inb x3 6) (chk (inb ((((x2 + 2 : Int32)) + ((4 * x3 : Int32)) : Int32)) (xN k1)) (lt (sU S k1 (Int32.toNatClampNeg ((((x2 + 2 : Int32)) + ((4 * x3 : Int32)) : Int32))) (S (k0 + 1) (Int32.toNatClampNeg x3))) fun S1 => (chk (inb x3 6) (chk (inb ((((((x2 + 2 : Int32)) + ((4 * x3 : Int32)) : Int32)) + 1 : Int32)) (xN k1)) (lt (sU S1 k1 (Int32.toNatClampNeg ((((((x2 + 2 : Int32)) + ((4 * x3 : Int32)) : Int32)) + 1 : Int32))) (S1 (k0 + 2) (Int32.toNatClampNeg x3))) fun S2 => (chk (inb x3 6) (chk (inb ((((((x2 + 2 : Int32)) + ((4 * x3 : Int32)) : Int32)) + 2 : Int32)) (xN k1)) (lt (sU S2 k1 (Int32.toNatClampNeg ((((((x2 + 2 : Int32)) + ((4 * x3 : Int32)) : Int32)) + 2 : Int32))) (S2 (k0 + 3) (Int32.toNatClampNeg x3))) fun S3 => (chk (inb x3 6) (chk (inb ((((((x2 + 2 : Int32)) + ((4 * x3 : Int32)) : Int32)) + 3 : Int32)) (xN k1)) (lt (sU S3 k1 (Int32.toNatClampNeg ((((((x2 + 2 : Int32)) + ((4 * x3 : Int32)) : Int32)) + 3 : Int32))) (S3 (k0 + 4) (Int32.toNatClampNeg x3))) fun S4 => (r32 k0 k1 x2 ((x3 + 1 : Int32)) S4))))))))))))
theorem bX7_write_38 {N : Nat} {r32 : Nat → Nat → Int32 → Int32 → gS → Option (Int32 × gS)} {k0 : Nat} {k1 : Nat} {x2 : Int32} {x3 : Int32} {S : gS} {H : Heap} {locs : List Loc} {ls : Array Slot} {o : Int32 × gS} (C : gC p s m args meth c cX7_write 5 RX7 none D (xtys cI cB cZ cQ) xord g Am) (O : xO g cI cB cZ cQ Am) (K32 : ∀ (k0 : Nat) (k1 : Nat) (x2 : Int32) (x3 : Int32) (hk_k0 : xk k0 = 7) (hk_k1 : xk k1 = 20) (S : gS) (H : Heap) (locs : List Loc) (ls : Array Slot), gX D (xcell g cI cB cZ cQ) xord g S s H locs → lv_has ls 5 [(0, .ref (g k0)), (1, .ref (g k1)), (2, .int x2), (3, .int x3)] → r32 k0 k1 x2 x3 S = some o → W p l e (rmd 0) s m args below meth c H locs 0 0 (gE below args s D (xtys cI cB cZ cQ) (xcell g cI cB cZ cQ) xord g none o.2) (F0 m 32 ls [])) (hk_k0 : xk k0 = 7) (hk_k1 : xk k1 = 20) (X : gX D (xcell g cI cB cZ cQ) xord g S s H locs) (hl : lv_has ls 5 [(0, .ref (g k0)), (1, .ref (g k1)), (2, .int x2), (3, .int x3)]) (hF : fX7_write_b38 N r32 k0 k1 x2 x3 S = some o) : W p l e (rmd 0) s m args below meth c H locs 0 0 (gE below args s D (xtys cI cB cZ cQ) (xcell g cI cB cZ cQ) xord g none o.2) (F0 m 38 ls []) := by
  unfold fX7_write_b38 at hF
  refine lv_iload_n C.1.1 C.1.2.1 dX7_write_38 rfl (lv_at hl 2 rfl) ?_
  refine lv_iconst (v := 2) C.1.1 C.1.2.1 dX7_write_39 (by decide) ?_
  refine lv_iadd C.1.1 C.1.2.1 dX7_write_40 ?_
  refine lv_iconst (v := 4) C.1.1 C.1.2.1 dX7_write_41 (by decide) ?_
  refine lv_iload_n C.1.1 C.1.2.1 dX7_write_42 rfl (lv_at hl 3 rfl) ?_
  refine lv_imul C.1.1 C.1.2.1 dX7_write_43 ?_
  refine lv_iadd C.1.1 C.1.2.1 dX7_write_44 ?_
  refine lv_istore (lv' := [(4, .int ((((x2 + 2 : Int32)) + ((4 * x3 : Int32)) : Int32))), (0, .ref (g k0)), (1, .ref (g k1)), (2, .int x2), (3, .int x3)]) C.1.1 C.1.2.1 dX7_write_45 hl (by decide) rfl (fun ls hl => ?_)
  refine lv_aload_n C.1.1 C.1.2.1 dX7_write_47 rfl (lv_at hl 2 rfl) ?_
  refine lv_iload C.1.1 C.1.2.1 dX7_write_48 (lv_at hl 0 rfl) ?_
  refine lv_aload_n C.1.1 C.1.2.1 dX7_write_50 rfl (lv_at hl 1 rfl) ?_
  refine xg_X7_18 C O X (k := k0) hk_k0 (j := k0 + 1) rfl dX7_write_51 ?_
  refine lv_iload_n C.1.1 C.1.2.1 dX7_write_54 rfl (lv_at hl 4 rfl) ?_
  obtain ⟨h_1, hF⟩ := chk_some hF
  refine x_rI C X (k := k0 + 1) (xs_7_2 hk_k0).1 (n := 6) (xs_7_2 hk_k0).2  (inb_vp h_1) rfl dX7_write_55 ?_
  obtain ⟨h_2, hF⟩ := chk_some hF
  obtain ⟨S1, eS1, hF⟩ := lt_some hF
  refine x_wI C O X (k := k1) hk_k1 (n := xN k1) rfl  (inb_vp h_2) rfl eS1 dX7_write_56 (fun H locs X => ?_)
  refine lv_aload_n C.1.1 C.1.2.1 dX7_write_57 rfl (lv_at hl 2 rfl) ?_
  refine lv_iload C.1.1 C.1.2.1 dX7_write_58 (lv_at hl 0 rfl) ?_
  refine lv_iconst (v := 1) C.1.1 C.1.2.1 dX7_write_60 (by decide) ?_
  refine lv_iadd C.1.1 C.1.2.1 dX7_write_61 ?_
  refine lv_aload_n C.1.1 C.1.2.1 dX7_write_62 rfl (lv_at hl 1 rfl) ?_
  refine xg_X7_22 C O X (k := k0) hk_k0 (j := k0 + 2) rfl dX7_write_63 ?_
  refine lv_iload_n C.1.1 C.1.2.1 dX7_write_66 rfl (lv_at hl 4 rfl) ?_
  obtain ⟨h_3, hF⟩ := chk_some hF
  refine x_rI C X (k := k0 + 2) (xs_7_3 hk_k0).1 (n := 6) (xs_7_3 hk_k0).2  (inb_vp h_3) rfl dX7_write_67 ?_
  obtain ⟨h_4, hF⟩ := chk_some hF
  obtain ⟨S2, eS2, hF⟩ := lt_some hF
  refine x_wI C O X (k := k1) hk_k1 (n := xN k1) rfl  (inb_vp h_4) rfl eS2 dX7_write_68 (fun H locs X => ?_)
  refine lv_aload_n C.1.1 C.1.2.1 dX7_write_69 rfl (lv_at hl 2 rfl) ?_
  refine lv_iload C.1.1 C.1.2.1 dX7_write_70 (lv_at hl 0 rfl) ?_
  refine lv_iconst (v := 2) C.1.1 C.1.2.1 dX7_write_72 (by decide) ?_
  refine lv_iadd C.1.1 C.1.2.1 dX7_write_73 ?_
  refine lv_aload_n C.1.1 C.1.2.1 dX7_write_74 rfl (lv_at hl 1 rfl) ?_
  refine xg_X7_25 C O X (k := k0) hk_k0 (j := k0 + 3) rfl dX7_write_75 ?_
  refine lv_iload_n C.1.1 C.1.2.1 dX7_write_78 rfl (lv_at hl 4 rfl) ?_
  obtain ⟨h_5, hF⟩ := chk_some hF
  refine x_rI C X (k := k0 + 3) (xs_7_4 hk_k0).1 (n := 6) (xs_7_4 hk_k0).2  (inb_vp h_5) rfl dX7_write_79 ?_
  obtain ⟨h_6, hF⟩ := chk_some hF
  obtain ⟨S3, eS3, hF⟩ := lt_some hF
  refine x_wI C O X (k := k1) hk_k1 (n := xN k1) rfl  (inb_vp h_6) rfl eS3 dX7_write_80 (fun H locs X => ?_)
  refine lv_aload_n C.1.1 C.1.2.1 dX7_write_81 rfl (lv_at hl 2 rfl) ?_
  refine lv_iload C.1.1 C.1.2.1 dX7_write_82 (lv_at hl 0 rfl) ?_
  refine lv_iconst (v := 3) C.1.1 C.1.2.1 dX7_write_84 (by decide) ?_
  refine lv_iadd C.1.1 C.1.2.1 dX7_write_85 ?_
  refine lv_aload_n C.1.1 C.1.2.1 dX7_write_86 rfl (lv_at hl 1 rfl) ?_
  refine xg_X7_28 C O X (k := k0) hk_k0 (j := k0 + 4) rfl dX7_write_87 ?_
  refine lv_iload_n C.1.1 C.1.2.1 dX7_write_90 rfl (lv_at hl 4 rfl) ?_
  obtain ⟨h_7, hF⟩ := chk_some hF
  refine x_rI C X (k := k0 + 4) (xs_7_5 hk_k0).1 (n := 6) (xs_7_5 hk_k0).2  (inb_vp h_7) rfl dX7_write_91 ?_
  obtain ⟨h_8, hF⟩ := chk_some hF
  obtain ⟨S4, eS4, hF⟩ := lt_some hF
  refine x_wI C O X (k := k1) hk_k1 (n := xN k1) rfl  (inb_vp h_8) rfl eS4 dX7_write_92 (fun H locs X => ?_)
  refine lv_iinc (v := (x3 + 1 : Int32)) (lv' := [(3, .int ((x3 + 1 : Int32))), (4, .int ((((x2 + 2 : Int32)) + ((4 * x3 : Int32)) : Int32))), (0, .ref (g k0)), (1, .ref (g k1)), (2, .int x2)]) C.1.1 C.1.2.1 dX7_write_93 hl (k := 4) rfl rfl (by decide) rfl (fun ls hl => ?_)
  refine lv_goto (tgt := 32) C.1.1 C.1.2.1 dX7_write_96 (by decide) ?_
  exact K32 _ _ _ _ (hk_k0 : xk k0 = 7) (hk_k1 : xk k1 = 20) _ _ _ _ X (lv_sub hl [2, 3, 4, 0] rfl) hF
noncomputable def fX7_write_b32 (N : Nat) (r32 : Nat → Nat → Int32 → Int32 → gS → Option (Int32 × gS)) (k0 : Nat) (k1 : Nat) (x2 : Int32) (x3 : Int32) (S : gS) : Option (Int32 × gS) := if 6 ≤ x3 then fX7_write_b99 N S else fX7_write_b38 N r32 k0 k1 x2 x3 S
theorem bX7_write_32 {N : Nat} {r32 : Nat → Nat → Int32 → Int32 → gS → Option (Int32 × gS)} {k0 : Nat} {k1 : Nat} {x2 : Int32} {x3 : Int32} {S : gS} {H : Heap} {locs : List Loc} {ls : Array Slot} {o : Int32 × gS} (C : gC p s m args meth c cX7_write 5 RX7 none D (xtys cI cB cZ cQ) xord g Am) (O : xO g cI cB cZ cQ Am) (K32 : ∀ (k0 : Nat) (k1 : Nat) (x2 : Int32) (x3 : Int32) (hk_k0 : xk k0 = 7) (hk_k1 : xk k1 = 20) (S : gS) (H : Heap) (locs : List Loc) (ls : Array Slot), gX D (xcell g cI cB cZ cQ) xord g S s H locs → lv_has ls 5 [(0, .ref (g k0)), (1, .ref (g k1)), (2, .int x2), (3, .int x3)] → r32 k0 k1 x2 x3 S = some o → W p l e (rmd 0) s m args below meth c H locs 0 0 (gE below args s D (xtys cI cB cZ cQ) (xcell g cI cB cZ cQ) xord g none o.2) (F0 m 32 ls [])) (hk_k0 : xk k0 = 7) (hk_k1 : xk k1 = 20) (X : gX D (xcell g cI cB cZ cQ) xord g S s H locs) (hl : lv_has ls 5 [(0, .ref (g k0)), (1, .ref (g k1)), (2, .int x2), (3, .int x3)]) (hF : fX7_write_b32 N r32 k0 k1 x2 x3 S = some o) : W p l e (rmd 0) s m args below meth c H locs 0 0 (gE below args s D (xtys cI cB cZ cQ) (xcell g cI cB cZ cQ) xord g none o.2) (F0 m 32 ls []) := by
  unfold fX7_write_b32 at hF
  refine lv_iload_n C.1.1 C.1.2.1 dX7_write_32 rfl (lv_at hl 3 rfl) ?_
  refine lv_bipush (v := 6) C.1.1 C.1.2.1 dX7_write_33 (by decide) ?_
  refine lv_icmp_ge (tgt := 99) C.1.1 C.1.2.1 dX7_write_35 (by decide) (fun h_z => ?_) (fun h_z => ?_)
  · rw [if_pos h_z] at hF
    exact bX7_write_99 C O X (lv_sub hl [] rfl) hF
  · rw [if_neg h_z] at hF
    exact bX7_write_38 C O K32 (hk_k0 : xk k0 = 7) (hk_k1 : xk k1 = 20) X (lv_sub hl [0, 1, 2, 3] rfl) hF
noncomputable def fX7_write_h32 (N : Nat) : Nat → Nat → Nat → Int32 → Int32 → gS → Option (Int32 × gS)
  | 0, _, _, _, _, _ => none
  | n + 1, k0, k1, x2, x3, S => fX7_write_b32 N (fX7_write_h32 N n) k0 k1 x2 x3 S
theorem hX7_write_32 {N : Nat} {o : Int32 × gS} (C : gC p s m args meth c cX7_write 5 RX7 none D (xtys cI cB cZ cQ) xord g Am) (O : xO g cI cB cZ cQ Am) : ∀ (n : Nat) (k0 : Nat) (k1 : Nat) (x2 : Int32) (x3 : Int32) (hk_k0 : xk k0 = 7) (hk_k1 : xk k1 = 20) (S : gS) (H : Heap) (locs : List Loc) (ls : Array Slot), gX D (xcell g cI cB cZ cQ) xord g S s H locs → lv_has ls 5 [(0, .ref (g k0)), (1, .ref (g k1)), (2, .int x2), (3, .int x3)] → fX7_write_h32 N n k0 k1 x2 x3 S = some o → W p l e (rmd 0) s m args below meth c H locs 0 0 (gE below args s D (xtys cI cB cZ cQ) (xcell g cI cB cZ cQ) xord g none o.2) (F0 m 32 ls []) := by
  intro n
  induction n with
  | zero =>
    intro k0 k1 x2 x3 hk_k0 hk_k1 S H locs ls X hl hF
    exact absurd (show (none : Option (Int32 × gS)) = some o from hF) (by simp)
  | succ n ih =>
    intro k0 k1 x2 x3 hk_k0 hk_k1 S H locs ls X hl hF
    have hF : fX7_write_b32 N (fX7_write_h32 N n) k0 k1 x2 x3 S = some o := hF
    exact bX7_write_32 C O ih hk_k0 hk_k1 X hl hF
noncomputable def fX7_write_b14 (N : Nat) (k0 : Nat) (k1 : Nat) (x2 : Int32) (S : gS) : Option (Int32 × gS) := chk (inb x2 (xN k1)) (lt (sU S k1 (Int32.toNatClampNeg x2) (S k0 0)) fun S1 => (chk (inb ((x2 + 1 : Int32)) (xN k1)) (lt (sU S1 k1 (Int32.toNatClampNeg ((x2 + 1 : Int32))) (S1 k0 1)) fun S2 => (fX7_write_h32 N N k0 k1 x2 0 S2))))
theorem bX7_write_14 {N : Nat} {k0 : Nat} {k1 : Nat} {x2 : Int32} {S : gS} {H : Heap} {locs : List Loc} {ls : Array Slot} {o : Int32 × gS} (C : gC p s m args meth c cX7_write 5 RX7 none D (xtys cI cB cZ cQ) xord g Am) (O : xO g cI cB cZ cQ Am) (hk_k0 : xk k0 = 7) (hk_k1 : xk k1 = 20) (X : gX D (xcell g cI cB cZ cQ) xord g S s H locs) (hl : lv_has ls 5 [(0, .ref (g k0)), (1, .ref (g k1)), (2, .int x2)]) (hF : fX7_write_b14 N k0 k1 x2 S = some o) : W p l e (rmd 0) s m args below meth c H locs 0 0 (gE below args s D (xtys cI cB cZ cQ) (xcell g cI cB cZ cQ) xord g none o.2) (F0 m 14 ls []) := by
  unfold fX7_write_b14 at hF
  refine lv_aload_n C.1.1 C.1.2.1 dX7_write_14 rfl (lv_at hl 1 rfl) ?_
  refine lv_iload_n C.1.1 C.1.2.1 dX7_write_15 rfl (lv_at hl 2 rfl) ?_
  refine lv_aload_n C.1.1 C.1.2.1 dX7_write_16 rfl (lv_at hl 0 rfl) ?_
  refine xg_X7_9 C O X (k := k0) hk_k0 dX7_write_17 ?_
  obtain ⟨h_1, hF⟩ := chk_some hF
  obtain ⟨S1, eS1, hF⟩ := lt_some hF
  refine x_wI C O X (k := k1) hk_k1 (n := xN k1) rfl  (inb_vp h_1) rfl eS1 dX7_write_20 (fun H locs X => ?_)
  refine lv_aload_n C.1.1 C.1.2.1 dX7_write_21 rfl (lv_at hl 1 rfl) ?_
  refine lv_iload_n C.1.1 C.1.2.1 dX7_write_22 rfl (lv_at hl 2 rfl) ?_
  refine lv_iconst (v := 1) C.1.1 C.1.2.1 dX7_write_23 (by decide) ?_
  refine lv_iadd C.1.1 C.1.2.1 dX7_write_24 ?_
  refine lv_aload_n C.1.1 C.1.2.1 dX7_write_25 rfl (lv_at hl 0 rfl) ?_
  refine xg_X7_15 C O X (k := k0) hk_k0 dX7_write_26 ?_
  obtain ⟨h_2, hF⟩ := chk_some hF
  obtain ⟨S2, eS2, hF⟩ := lt_some hF
  refine x_wI C O X (k := k1) hk_k1 (n := xN k1) rfl  (inb_vp h_2) rfl eS2 dX7_write_29 (fun H locs X => ?_)
  refine lv_iconst (v := 0) C.1.1 C.1.2.1 dX7_write_30 (by decide) ?_
  refine lv_istore_n (lv' := [(3, .int 0), (0, .ref (g k0)), (1, .ref (g k1)), (2, .int x2)]) C.1.1 C.1.2.1 dX7_write_31 rfl hl (by decide) rfl (fun ls hl => ?_)
  exact hX7_write_32 C O N _ _ _ _ (hk_k0 : xk k0 = 7) (hk_k1 : xk k1 = 20) _ _ _ _ X (lv_sub hl [1, 2, 3, 0] rfl) hF
noncomputable def fX7_write_b13 (N : Nat) (S : gS) : Option (Int32 × gS) := some (0, S)
theorem bX7_write_13 {N : Nat} {S : gS} {H : Heap} {locs : List Loc} {ls : Array Slot} {o : Int32 × gS} (C : gC p s m args meth c cX7_write 5 RX7 none D (xtys cI cB cZ cQ) xord g Am) (O : xO g cI cB cZ cQ Am) (X : gX D (xcell g cI cB cZ cQ) xord g S s H locs) (hl : lv_has ls 5 []) (hF : fX7_write_b13 N S = some o) : W p l e (rmd 0) s m args below meth c H locs 0 0 (gE below args s D (xtys cI cB cZ cQ) (xcell g cI cB cZ cQ) xord g none o.2) (F0 m 13 ls []) := by
  unfold fX7_write_b13 at hF
  cases hF
  exact g_vret C X dX7_write_13
noncomputable def fX7_write_b4 (N : Nat) (k0 : Nat) (k1 : Nat) (x2 : Int32) (S : gS) : Option (Int32 × gS) := if ((x2 + 26 : Int32)) ≤ (Int32.ofNat (xN k1)) then fX7_write_b14 N k0 k1 x2 S else fX7_write_b13 N S
theorem bX7_write_4 {N : Nat} {k0 : Nat} {k1 : Nat} {x2 : Int32} {S : gS} {H : Heap} {locs : List Loc} {ls : Array Slot} {o : Int32 × gS} (C : gC p s m args meth c cX7_write 5 RX7 none D (xtys cI cB cZ cQ) xord g Am) (O : xO g cI cB cZ cQ Am) (hk_k0 : xk k0 = 7) (hk_k1 : xk k1 = 20) (X : gX D (xcell g cI cB cZ cQ) xord g S s H locs) (hl : lv_has ls 5 [(0, .ref (g k0)), (1, .ref (g k1)), (2, .int x2)]) (hF : fX7_write_b4 N k0 k1 x2 S = some o) : W p l e (rmd 0) s m args below meth c H locs 0 0 (gE below args s D (xtys cI cB cZ cQ) (xcell g cI cB cZ cQ) xord g none o.2) (F0 m 4 ls []) := by
  unfold fX7_write_b4 at hF
  refine lv_iload_n C.1.1 C.1.2.1 dX7_write_4 rfl (lv_at hl 2 rfl) ?_
  refine lv_bipush (v := 26) C.1.1 C.1.2.1 dX7_write_5 (by decide) ?_
  refine lv_iadd C.1.1 C.1.2.1 dX7_write_7 ?_
  refine lv_aload_n C.1.1 C.1.2.1 dX7_write_8 rfl (lv_at hl 1 rfl) ?_
  refine x_lI C X (k := k1) hk_k1 (n := xN k1) rfl (x := Int32.ofNat (xN k1)) rfl dX7_write_9 ?_
  refine lv_icmp_le (tgt := 14) C.1.1 C.1.2.1 dX7_write_10 (by decide) (fun h_z => ?_) (fun h_z => ?_)
  · rw [if_pos h_z] at hF
    exact bX7_write_14 C O (hk_k0 : xk k0 = 7) (hk_k1 : xk k1 = 20) X (lv_sub hl [0, 1, 2] rfl) hF
  · rw [if_neg h_z] at hF
    exact bX7_write_13 C O X (lv_sub hl [] rfl) hF
noncomputable def fX7_write_b0 (N : Nat) (k0 : Nat) (k1 : Nat) (x2 : Int32) (S : gS) : Option (Int32 × gS) := if x2 < 0 then fX7_write_b13 N S else fX7_write_b4 N k0 k1 x2 S
theorem bX7_write_0 {N : Nat} {k0 : Nat} {k1 : Nat} {x2 : Int32} {S : gS} {H : Heap} {locs : List Loc} {ls : Array Slot} {o : Int32 × gS} (C : gC p s m args meth c cX7_write 5 RX7 none D (xtys cI cB cZ cQ) xord g Am) (O : xO g cI cB cZ cQ Am) (hk_k0 : xk k0 = 7) (hk_k1 : xk k1 = 20) (X : gX D (xcell g cI cB cZ cQ) xord g S s H locs) (hl : lv_has ls 5 [(0, .ref (g k0)), (1, .ref (g k1)), (2, .int x2)]) (hF : fX7_write_b0 N k0 k1 x2 S = some o) : W p l e (rmd 0) s m args below meth c H locs 0 0 (gE below args s D (xtys cI cB cZ cQ) (xcell g cI cB cZ cQ) xord g none o.2) (F0 m 0 ls []) := by
  unfold fX7_write_b0 at hF
  refine lv_iload_n C.1.1 C.1.2.1 dX7_write_0 rfl (lv_at hl 2 rfl) ?_
  refine lv_if_lt (tgt := 13) C.1.1 C.1.2.1 dX7_write_1 (by decide) (fun h_z => ?_) (fun h_z => ?_)
  · rw [if_pos h_z] at hF
    exact bX7_write_13 C O X (lv_sub hl [] rfl) hF
  · rw [if_neg h_z] at hF
    exact bX7_write_4 C O (hk_k0 : xk k0 = 7) (hk_k1 : xk k1 = 20) X (lv_sub hl [0, 1, 2] rfl) hF
noncomputable def fX7_write (N : Nat) (k0 : Nat) (k1 : Nat) (x2 : Int32) (S : gS) : Option (Int32 × gS) := fX7_write_b0 N k0 k1 x2 S
theorem kX7_write {l : Launch} {D : va_G} {g : Nat → Nat} {cI cB cZ cQ : ClassId} {Am : (Nat → Prop) → State → Heap → Prop} (O : xO g cI cB cZ cQ Am) (P : gAm Am) (N : Nat) (k0 : Nat) (k1 : Nat) (x2 : Int32) (hk_k0 : xk k0 = 7) (hk_k1 : xk k1 = 20) (S : gS) (o : Int32 × gS) (hF : fX7_write N k0 k1 x2 S = some o) : gM l yX7_write cX7_write 5 none 0 D (xtys cI cB cZ cQ) (xcell g cI cB cZ cQ) xord g Am [.ref (g k0), .ref (g k1), .int x2] S none o.2 :=
  gM_of O.1 P (by decide) (Nat.le_of_ble_eq_true rfl) (fun p e s m args below meth c ls C X hl => bX7_write_0 C O hk_k0 hk_k1 X (lv_sub hl [0, 1, 2] rfl) hF)
-- X7.read
noncomputable def fX7_read_b99 (N : Nat) (S : gS) : Option (Int32 × gS) := some (0, S)
theorem bX7_read_99 {N : Nat} {S : gS} {H : Heap} {locs : List Loc} {ls : Array Slot} {o : Int32 × gS} (C : gC p s m args meth c cX7_read 5 RX7 none D (xtys cI cB cZ cQ) xord g Am) (O : xO g cI cB cZ cQ Am) (X : gX D (xcell g cI cB cZ cQ) xord g S s H locs) (hl : lv_has ls 5 []) (hF : fX7_read_b99 N S = some o) : W p l e (rmd 0) s m args below meth c H locs 0 0 (gE below args s D (xtys cI cB cZ cQ) (xcell g cI cB cZ cQ) xord g none o.2) (F0 m 99 ls []) := by
  unfold fX7_read_b99 at hF
  cases hF
  exact g_vret C X dX7_read_99
noncomputable def fX7_read_b38 (N : Nat) (r32 : Nat → Nat → Int32 → Int32 → gS → Option (Int32 × gS)) (k0 : Nat) (k1 : Nat) (x2 : Int32) (x3 : Int32) (S : gS) : Option (Int32 × gS) := chk (inb ((((x2 + 2 : Int32)) + ((4 * x3 : Int32)) : Int32)) (xN k1)) (chk (inb x3 6) (lt (sU S (k0 + 1) (Int32.toNatClampNeg x3) (S k1 (Int32.toNatClampNeg ((((x2 + 2 : Int32)) + ((4 * x3 : Int32)) : Int32))))) fun S1 => (chk (inb ((((((x2 + 2 : Int32)) + ((4 * x3 : Int32)) : Int32)) + 1 : Int32)) (xN k1)) (chk (inb x3 6) (lt (sU S1 (k0 + 2) (Int32.toNatClampNeg x3) (S1 k1 (Int32.toNatClampNeg ((((((x2 + 2 : Int32)) + ((4 * x3 : Int32)) : Int32)) + 1 : Int32))))) fun S2 => (chk (inb ((((((x2 + 2 : Int32)) + ((4 * x3 : Int32)) : Int32)) + 2 : Int32)) (xN k1)) (chk (inb x3 6) (lt (sU S2 (k0 + 3) (Int32.toNatClampNeg x3) (S2 k1 (Int32.toNatClampNeg ((((((x2 + 2 : Int32)) + ((4 * x3 : Int32)) : Int32)) + 2 : Int32))))) fun S3 => (chk (inb ((((((x2 + 2 : Int32)) + ((4 * x3 : Int32)) : Int32)) + 3 : Int32)) (xN k1)) (chk (inb x3 6) (lt (sU S3 (k0 + 4) (Int32.toNatClampNeg x3) (S3 k1 (Int32.toNatClampNeg ((((((x2 + 2 : Int32)) + ((4 * x3 : Int32)) : Int32)) + 3 : Int32))))) fun S4 => (r32 k0 k1 x2 ((x3 + 1 : Int32)) S4))))))))))))
theorem bX7_read_38 {N : Nat} {r32 : Nat → Nat → Int32 → Int32 → gS → Option (Int32 × gS)} {k0 : Nat} {k1 : Nat} {x2 : Int32} {x3 : Int32} {S : gS} {H : Heap} {locs : List Loc} {ls : Array Slot} {o : Int32 × gS} (C : gC p s m args meth c cX7_read 5 RX7 none D (xtys cI cB cZ cQ) xord g Am) (O : xO g cI cB cZ cQ Am) (K32 : ∀ (k0 : Nat) (k1 : Nat) (x2 : Int32) (x3 : Int32) (hk_k0 : xk k0 = 7) (hk_k1 : xk k1 = 20) (S : gS) (H : Heap) (locs : List Loc) (ls : Array Slot), gX D (xcell g cI cB cZ cQ) xord g S s H locs → lv_has ls 5 [(0, .ref (g k0)), (1, .ref (g k1)), (2, .int x2), (3, .int x3)] → r32 k0 k1 x2 x3 S = some o → W p l e (rmd 0) s m args below meth c H locs 0 0 (gE below args s D (xtys cI cB cZ cQ) (xcell g cI cB cZ cQ) xord g none o.2) (F0 m 32 ls [])) (hk_k0 : xk k0 = 7) (hk_k1 : xk k1 = 20) (X : gX D (xcell g cI cB cZ cQ) xord g S s H locs) (hl : lv_has ls 5 [(0, .ref (g k0)), (1, .ref (g k1)), (2, .int x2), (3, .int x3)]) (hF : fX7_read_b38 N r32 k0 k1 x2 x3 S = some o) : W p l e (rmd 0) s m args below meth c H locs 0 0 (gE below args s D (xtys cI cB cZ cQ) (xcell g cI cB cZ cQ) xord g none o.2) (F0 m 38 ls []) := by
  unfold fX7_read_b38 at hF
  refine lv_iload_n C.1.1 C.1.2.1 dX7_read_38 rfl (lv_at hl 2 rfl) ?_
  refine lv_iconst (v := 2) C.1.1 C.1.2.1 dX7_read_39 (by decide) ?_
  refine lv_iadd C.1.1 C.1.2.1 dX7_read_40 ?_
  refine lv_iconst (v := 4) C.1.1 C.1.2.1 dX7_read_41 (by decide) ?_
  refine lv_iload_n C.1.1 C.1.2.1 dX7_read_42 rfl (lv_at hl 3 rfl) ?_
  refine lv_imul C.1.1 C.1.2.1 dX7_read_43 ?_
  refine lv_iadd C.1.1 C.1.2.1 dX7_read_44 ?_
  refine lv_istore (lv' := [(4, .int ((((x2 + 2 : Int32)) + ((4 * x3 : Int32)) : Int32))), (0, .ref (g k0)), (1, .ref (g k1)), (2, .int x2), (3, .int x3)]) C.1.1 C.1.2.1 dX7_read_45 hl (by decide) rfl (fun ls hl => ?_)
  refine lv_aload_n C.1.1 C.1.2.1 dX7_read_47 rfl (lv_at hl 1 rfl) ?_
  refine xg_X7_18 C O X (k := k0) hk_k0 (j := k0 + 1) rfl dX7_read_48 ?_
  refine lv_iload_n C.1.1 C.1.2.1 dX7_read_51 rfl (lv_at hl 4 rfl) ?_
  refine lv_aload_n C.1.1 C.1.2.1 dX7_read_52 rfl (lv_at hl 2 rfl) ?_
  refine lv_iload C.1.1 C.1.2.1 dX7_read_53 (lv_at hl 0 rfl) ?_
  obtain ⟨h_1, hF⟩ := chk_some hF
  refine x_rI C X (k := k1) hk_k1 (n := xN k1) rfl  (inb_vp h_1) rfl dX7_read_55 ?_
  obtain ⟨h_2, hF⟩ := chk_some hF
  obtain ⟨S1, eS1, hF⟩ := lt_some hF
  refine x_wI C O X (k := k0 + 1) (xs_7_2 hk_k0).1 (n := 6) (xs_7_2 hk_k0).2  (inb_vp h_2) rfl eS1 dX7_read_56 (fun H locs X => ?_)
  refine lv_aload_n C.1.1 C.1.2.1 dX7_read_57 rfl (lv_at hl 1 rfl) ?_
  refine xg_X7_22 C O X (k := k0) hk_k0 (j := k0 + 2) rfl dX7_read_58 ?_
  refine lv_iload_n C.1.1 C.1.2.1 dX7_read_61 rfl (lv_at hl 4 rfl) ?_
  refine lv_aload_n C.1.1 C.1.2.1 dX7_read_62 rfl (lv_at hl 2 rfl) ?_
  refine lv_iload C.1.1 C.1.2.1 dX7_read_63 (lv_at hl 0 rfl) ?_
  refine lv_iconst (v := 1) C.1.1 C.1.2.1 dX7_read_65 (by decide) ?_
  refine lv_iadd C.1.1 C.1.2.1 dX7_read_66 ?_
  obtain ⟨h_3, hF⟩ := chk_some hF
  refine x_rI C X (k := k1) hk_k1 (n := xN k1) rfl  (inb_vp h_3) rfl dX7_read_67 ?_
  obtain ⟨h_4, hF⟩ := chk_some hF
  obtain ⟨S2, eS2, hF⟩ := lt_some hF
  refine x_wI C O X (k := k0 + 2) (xs_7_3 hk_k0).1 (n := 6) (xs_7_3 hk_k0).2  (inb_vp h_4) rfl eS2 dX7_read_68 (fun H locs X => ?_)
  refine lv_aload_n C.1.1 C.1.2.1 dX7_read_69 rfl (lv_at hl 1 rfl) ?_
  refine xg_X7_25 C O X (k := k0) hk_k0 (j := k0 + 3) rfl dX7_read_70 ?_
  refine lv_iload_n C.1.1 C.1.2.1 dX7_read_73 rfl (lv_at hl 4 rfl) ?_
  refine lv_aload_n C.1.1 C.1.2.1 dX7_read_74 rfl (lv_at hl 2 rfl) ?_
  refine lv_iload C.1.1 C.1.2.1 dX7_read_75 (lv_at hl 0 rfl) ?_
  refine lv_iconst (v := 2) C.1.1 C.1.2.1 dX7_read_77 (by decide) ?_
  refine lv_iadd C.1.1 C.1.2.1 dX7_read_78 ?_
  obtain ⟨h_5, hF⟩ := chk_some hF
  refine x_rI C X (k := k1) hk_k1 (n := xN k1) rfl  (inb_vp h_5) rfl dX7_read_79 ?_
  obtain ⟨h_6, hF⟩ := chk_some hF
  obtain ⟨S3, eS3, hF⟩ := lt_some hF
  refine x_wI C O X (k := k0 + 3) (xs_7_4 hk_k0).1 (n := 6) (xs_7_4 hk_k0).2  (inb_vp h_6) rfl eS3 dX7_read_80 (fun H locs X => ?_)
  refine lv_aload_n C.1.1 C.1.2.1 dX7_read_81 rfl (lv_at hl 1 rfl) ?_
  refine xg_X7_28 C O X (k := k0) hk_k0 (j := k0 + 4) rfl dX7_read_82 ?_
  refine lv_iload_n C.1.1 C.1.2.1 dX7_read_85 rfl (lv_at hl 4 rfl) ?_
  refine lv_aload_n C.1.1 C.1.2.1 dX7_read_86 rfl (lv_at hl 2 rfl) ?_
  refine lv_iload C.1.1 C.1.2.1 dX7_read_87 (lv_at hl 0 rfl) ?_
  refine lv_iconst (v := 3) C.1.1 C.1.2.1 dX7_read_89 (by decide) ?_
  refine lv_iadd C.1.1 C.1.2.1 dX7_read_90 ?_
  obtain ⟨h_7, hF⟩ := chk_some hF
  refine x_rI C X (k := k1) hk_k1 (n := xN k1) rfl  (inb_vp h_7) rfl dX7_read_91 ?_
  obtain ⟨h_8, hF⟩ := chk_some hF
  obtain ⟨S4, eS4, hF⟩ := lt_some hF
  refine x_wI C O X (k := k0 + 4) (xs_7_5 hk_k0).1 (n := 6) (xs_7_5 hk_k0).2  (inb_vp h_8) rfl eS4 dX7_read_92 (fun H locs X => ?_)
  refine lv_iinc (v := (x3 + 1 : Int32)) (lv' := [(3, .int ((x3 + 1 : Int32))), (4, .int ((((x2 + 2 : Int32)) + ((4 * x3 : Int32)) : Int32))), (0, .ref (g k0)), (1, .ref (g k1)), (2, .int x2)]) C.1.1 C.1.2.1 dX7_read_93 hl (k := 4) rfl rfl (by decide) rfl (fun ls hl => ?_)
  refine lv_goto (tgt := 32) C.1.1 C.1.2.1 dX7_read_96 (by decide) ?_
  exact K32 _ _ _ _ (hk_k0 : xk k0 = 7) (hk_k1 : xk k1 = 20) _ _ _ _ X (lv_sub hl [2, 3, 4, 0] rfl) hF
noncomputable def fX7_read_b32 (N : Nat) (r32 : Nat → Nat → Int32 → Int32 → gS → Option (Int32 × gS)) (k0 : Nat) (k1 : Nat) (x2 : Int32) (x3 : Int32) (S : gS) : Option (Int32 × gS) := if 6 ≤ x3 then fX7_read_b99 N S else fX7_read_b38 N r32 k0 k1 x2 x3 S
theorem bX7_read_32 {N : Nat} {r32 : Nat → Nat → Int32 → Int32 → gS → Option (Int32 × gS)} {k0 : Nat} {k1 : Nat} {x2 : Int32} {x3 : Int32} {S : gS} {H : Heap} {locs : List Loc} {ls : Array Slot} {o : Int32 × gS} (C : gC p s m args meth c cX7_read 5 RX7 none D (xtys cI cB cZ cQ) xord g Am) (O : xO g cI cB cZ cQ Am) (K32 : ∀ (k0 : Nat) (k1 : Nat) (x2 : Int32) (x3 : Int32) (hk_k0 : xk k0 = 7) (hk_k1 : xk k1 = 20) (S : gS) (H : Heap) (locs : List Loc) (ls : Array Slot), gX D (xcell g cI cB cZ cQ) xord g S s H locs → lv_has ls 5 [(0, .ref (g k0)), (1, .ref (g k1)), (2, .int x2), (3, .int x3)] → r32 k0 k1 x2 x3 S = some o → W p l e (rmd 0) s m args below meth c H locs 0 0 (gE below args s D (xtys cI cB cZ cQ) (xcell g cI cB cZ cQ) xord g none o.2) (F0 m 32 ls [])) (hk_k0 : xk k0 = 7) (hk_k1 : xk k1 = 20) (X : gX D (xcell g cI cB cZ cQ) xord g S s H locs) (hl : lv_has ls 5 [(0, .ref (g k0)), (1, .ref (g k1)), (2, .int x2), (3, .int x3)]) (hF : fX7_read_b32 N r32 k0 k1 x2 x3 S = some o) : W p l e (rmd 0) s m args below meth c H locs 0 0 (gE below args s D (xtys cI cB cZ cQ) (xcell g cI cB cZ cQ) xord g none o.2) (F0 m 32 ls []) := by
  unfold fX7_read_b32 at hF
  refine lv_iload_n C.1.1 C.1.2.1 dX7_read_32 rfl (lv_at hl 3 rfl) ?_
  refine lv_bipush (v := 6) C.1.1 C.1.2.1 dX7_read_33 (by decide) ?_
  refine lv_icmp_ge (tgt := 99) C.1.1 C.1.2.1 dX7_read_35 (by decide) (fun h_z => ?_) (fun h_z => ?_)
  · rw [if_pos h_z] at hF
    exact bX7_read_99 C O X (lv_sub hl [] rfl) hF
  · rw [if_neg h_z] at hF
    exact bX7_read_38 C O K32 (hk_k0 : xk k0 = 7) (hk_k1 : xk k1 = 20) X (lv_sub hl [0, 1, 2, 3] rfl) hF
noncomputable def fX7_read_h32 (N : Nat) : Nat → Nat → Nat → Int32 → Int32 → gS → Option (Int32 × gS)
  | 0, _, _, _, _, _ => none
  | n + 1, k0, k1, x2, x3, S => fX7_read_b32 N (fX7_read_h32 N n) k0 k1 x2 x3 S
theorem hX7_read_32 {N : Nat} {o : Int32 × gS} (C : gC p s m args meth c cX7_read 5 RX7 none D (xtys cI cB cZ cQ) xord g Am) (O : xO g cI cB cZ cQ Am) : ∀ (n : Nat) (k0 : Nat) (k1 : Nat) (x2 : Int32) (x3 : Int32) (hk_k0 : xk k0 = 7) (hk_k1 : xk k1 = 20) (S : gS) (H : Heap) (locs : List Loc) (ls : Array Slot), gX D (xcell g cI cB cZ cQ) xord g S s H locs → lv_has ls 5 [(0, .ref (g k0)), (1, .ref (g k1)), (2, .int x2), (3, .int x3)] → fX7_read_h32 N n k0 k1 x2 x3 S = some o → W p l e (rmd 0) s m args below meth c H locs 0 0 (gE below args s D (xtys cI cB cZ cQ) (xcell g cI cB cZ cQ) xord g none o.2) (F0 m 32 ls []) := by
  intro n
  induction n with
  | zero =>
    intro k0 k1 x2 x3 hk_k0 hk_k1 S H locs ls X hl hF
    exact absurd (show (none : Option (Int32 × gS)) = some o from hF) (by simp)
  | succ n ih =>
    intro k0 k1 x2 x3 hk_k0 hk_k1 S H locs ls X hl hF
    have hF : fX7_read_b32 N (fX7_read_h32 N n) k0 k1 x2 x3 S = some o := hF
    exact bX7_read_32 C O ih hk_k0 hk_k1 X hl hF
noncomputable def fX7_read_b14 (N : Nat) (k0 : Nat) (k1 : Nat) (x2 : Int32) (S : gS) : Option (Int32 × gS) := chk (inb x2 (xN k1)) (lt (sU S k0 0 (S k1 (Int32.toNatClampNeg x2))) fun S1 => (chk (inb ((x2 + 1 : Int32)) (xN k1)) (lt (sU S1 k0 1 (S1 k1 (Int32.toNatClampNeg ((x2 + 1 : Int32))))) fun S2 => (fX7_read_h32 N N k0 k1 x2 0 S2))))
theorem bX7_read_14 {N : Nat} {k0 : Nat} {k1 : Nat} {x2 : Int32} {S : gS} {H : Heap} {locs : List Loc} {ls : Array Slot} {o : Int32 × gS} (C : gC p s m args meth c cX7_read 5 RX7 none D (xtys cI cB cZ cQ) xord g Am) (O : xO g cI cB cZ cQ Am) (hk_k0 : xk k0 = 7) (hk_k1 : xk k1 = 20) (X : gX D (xcell g cI cB cZ cQ) xord g S s H locs) (hl : lv_has ls 5 [(0, .ref (g k0)), (1, .ref (g k1)), (2, .int x2)]) (hF : fX7_read_b14 N k0 k1 x2 S = some o) : W p l e (rmd 0) s m args below meth c H locs 0 0 (gE below args s D (xtys cI cB cZ cQ) (xcell g cI cB cZ cQ) xord g none o.2) (F0 m 14 ls []) := by
  unfold fX7_read_b14 at hF
  refine lv_aload_n C.1.1 C.1.2.1 dX7_read_14 rfl (lv_at hl 0 rfl) ?_
  refine lv_aload_n C.1.1 C.1.2.1 dX7_read_15 rfl (lv_at hl 1 rfl) ?_
  refine lv_iload_n C.1.1 C.1.2.1 dX7_read_16 rfl (lv_at hl 2 rfl) ?_
  obtain ⟨h_1, hF⟩ := chk_some hF
  refine x_rI C X (k := k1) hk_k1 (n := xN k1) rfl  (inb_vp h_1) rfl dX7_read_17 ?_
  obtain ⟨S1, eS1, hF⟩ := lt_some hF
  refine xp_X7_9 C O X (k := k0) hk_k0 eS1 dX7_read_18 (fun H locs X => ?_)
  refine lv_aload_n C.1.1 C.1.2.1 dX7_read_21 rfl (lv_at hl 0 rfl) ?_
  refine lv_aload_n C.1.1 C.1.2.1 dX7_read_22 rfl (lv_at hl 1 rfl) ?_
  refine lv_iload_n C.1.1 C.1.2.1 dX7_read_23 rfl (lv_at hl 2 rfl) ?_
  refine lv_iconst (v := 1) C.1.1 C.1.2.1 dX7_read_24 (by decide) ?_
  refine lv_iadd C.1.1 C.1.2.1 dX7_read_25 ?_
  obtain ⟨h_2, hF⟩ := chk_some hF
  refine x_rI C X (k := k1) hk_k1 (n := xN k1) rfl  (inb_vp h_2) rfl dX7_read_26 ?_
  obtain ⟨S2, eS2, hF⟩ := lt_some hF
  refine xp_X7_15 C O X (k := k0) hk_k0 eS2 dX7_read_27 (fun H locs X => ?_)
  refine lv_iconst (v := 0) C.1.1 C.1.2.1 dX7_read_30 (by decide) ?_
  refine lv_istore_n (lv' := [(3, .int 0), (0, .ref (g k0)), (1, .ref (g k1)), (2, .int x2)]) C.1.1 C.1.2.1 dX7_read_31 rfl hl (by decide) rfl (fun ls hl => ?_)
  exact hX7_read_32 C O N _ _ _ _ (hk_k0 : xk k0 = 7) (hk_k1 : xk k1 = 20) _ _ _ _ X (lv_sub hl [1, 2, 3, 0] rfl) hF
noncomputable def fX7_read_b13 (N : Nat) (S : gS) : Option (Int32 × gS) := some (0, S)
theorem bX7_read_13 {N : Nat} {S : gS} {H : Heap} {locs : List Loc} {ls : Array Slot} {o : Int32 × gS} (C : gC p s m args meth c cX7_read 5 RX7 none D (xtys cI cB cZ cQ) xord g Am) (O : xO g cI cB cZ cQ Am) (X : gX D (xcell g cI cB cZ cQ) xord g S s H locs) (hl : lv_has ls 5 []) (hF : fX7_read_b13 N S = some o) : W p l e (rmd 0) s m args below meth c H locs 0 0 (gE below args s D (xtys cI cB cZ cQ) (xcell g cI cB cZ cQ) xord g none o.2) (F0 m 13 ls []) := by
  unfold fX7_read_b13 at hF
  cases hF
  exact g_vret C X dX7_read_13
noncomputable def fX7_read_b4 (N : Nat) (k0 : Nat) (k1 : Nat) (x2 : Int32) (S : gS) : Option (Int32 × gS) := if ((x2 + 26 : Int32)) ≤ (Int32.ofNat (xN k1)) then fX7_read_b14 N k0 k1 x2 S else fX7_read_b13 N S
theorem bX7_read_4 {N : Nat} {k0 : Nat} {k1 : Nat} {x2 : Int32} {S : gS} {H : Heap} {locs : List Loc} {ls : Array Slot} {o : Int32 × gS} (C : gC p s m args meth c cX7_read 5 RX7 none D (xtys cI cB cZ cQ) xord g Am) (O : xO g cI cB cZ cQ Am) (hk_k0 : xk k0 = 7) (hk_k1 : xk k1 = 20) (X : gX D (xcell g cI cB cZ cQ) xord g S s H locs) (hl : lv_has ls 5 [(0, .ref (g k0)), (1, .ref (g k1)), (2, .int x2)]) (hF : fX7_read_b4 N k0 k1 x2 S = some o) : W p l e (rmd 0) s m args below meth c H locs 0 0 (gE below args s D (xtys cI cB cZ cQ) (xcell g cI cB cZ cQ) xord g none o.2) (F0 m 4 ls []) := by
  unfold fX7_read_b4 at hF
  refine lv_iload_n C.1.1 C.1.2.1 dX7_read_4 rfl (lv_at hl 2 rfl) ?_
  refine lv_bipush (v := 26) C.1.1 C.1.2.1 dX7_read_5 (by decide) ?_
  refine lv_iadd C.1.1 C.1.2.1 dX7_read_7 ?_
  refine lv_aload_n C.1.1 C.1.2.1 dX7_read_8 rfl (lv_at hl 1 rfl) ?_
  refine x_lI C X (k := k1) hk_k1 (n := xN k1) rfl (x := Int32.ofNat (xN k1)) rfl dX7_read_9 ?_
  refine lv_icmp_le (tgt := 14) C.1.1 C.1.2.1 dX7_read_10 (by decide) (fun h_z => ?_) (fun h_z => ?_)
  · rw [if_pos h_z] at hF
    exact bX7_read_14 C O (hk_k0 : xk k0 = 7) (hk_k1 : xk k1 = 20) X (lv_sub hl [0, 1, 2] rfl) hF
  · rw [if_neg h_z] at hF
    exact bX7_read_13 C O X (lv_sub hl [] rfl) hF
noncomputable def fX7_read_b0 (N : Nat) (k0 : Nat) (k1 : Nat) (x2 : Int32) (S : gS) : Option (Int32 × gS) := if x2 < 0 then fX7_read_b13 N S else fX7_read_b4 N k0 k1 x2 S
theorem bX7_read_0 {N : Nat} {k0 : Nat} {k1 : Nat} {x2 : Int32} {S : gS} {H : Heap} {locs : List Loc} {ls : Array Slot} {o : Int32 × gS} (C : gC p s m args meth c cX7_read 5 RX7 none D (xtys cI cB cZ cQ) xord g Am) (O : xO g cI cB cZ cQ Am) (hk_k0 : xk k0 = 7) (hk_k1 : xk k1 = 20) (X : gX D (xcell g cI cB cZ cQ) xord g S s H locs) (hl : lv_has ls 5 [(0, .ref (g k0)), (1, .ref (g k1)), (2, .int x2)]) (hF : fX7_read_b0 N k0 k1 x2 S = some o) : W p l e (rmd 0) s m args below meth c H locs 0 0 (gE below args s D (xtys cI cB cZ cQ) (xcell g cI cB cZ cQ) xord g none o.2) (F0 m 0 ls []) := by
  unfold fX7_read_b0 at hF
  refine lv_iload_n C.1.1 C.1.2.1 dX7_read_0 rfl (lv_at hl 2 rfl) ?_
  refine lv_if_lt (tgt := 13) C.1.1 C.1.2.1 dX7_read_1 (by decide) (fun h_z => ?_) (fun h_z => ?_)
  · rw [if_pos h_z] at hF
    exact bX7_read_13 C O X (lv_sub hl [] rfl) hF
  · rw [if_neg h_z] at hF
    exact bX7_read_4 C O (hk_k0 : xk k0 = 7) (hk_k1 : xk k1 = 20) X (lv_sub hl [0, 1, 2] rfl) hF
noncomputable def fX7_read (N : Nat) (k0 : Nat) (k1 : Nat) (x2 : Int32) (S : gS) : Option (Int32 × gS) := fX7_read_b0 N k0 k1 x2 S
theorem kX7_read {l : Launch} {D : va_G} {g : Nat → Nat} {cI cB cZ cQ : ClassId} {Am : (Nat → Prop) → State → Heap → Prop} (O : xO g cI cB cZ cQ Am) (P : gAm Am) (N : Nat) (k0 : Nat) (k1 : Nat) (x2 : Int32) (hk_k0 : xk k0 = 7) (hk_k1 : xk k1 = 20) (S : gS) (o : Int32 × gS) (hF : fX7_read N k0 k1 x2 S = some o) : gM l yX7_read cX7_read 5 none 0 D (xtys cI cB cZ cQ) (xcell g cI cB cZ cQ) xord g Am [.ref (g k0), .ref (g k1), .int x2] S none o.2 :=
  gM_of O.1 P (by decide) (Nat.le_of_ble_eq_true rfl) (fun p e s m args below meth c ls C X hl => bX7_read_0 C O hk_k0 hk_k1 X (lv_sub hl [0, 1, 2] rfl) hF)
-- X7.turn
noncomputable def fX7_turn_b0 (N : Nat) (k0 : Nat) (x1 : Int32) (S : gS) : Option (Int32 × gS) := lt (sU S k0 1 (((S k0 1) ^^^ (((1 : Int32) <<< (x1 &&& 31) : Int32)) : Int32))) fun S1 => (some (0, S1))
theorem bX7_turn_0 {N : Nat} {k0 : Nat} {x1 : Int32} {S : gS} {H : Heap} {locs : List Loc} {ls : Array Slot} {o : Int32 × gS} (C : gC p s m args meth c cX7_turn 2 RX7 none D (xtys cI cB cZ cQ) xord g Am) (O : xO g cI cB cZ cQ Am) (hk_k0 : xk k0 = 7) (X : gX D (xcell g cI cB cZ cQ) xord g S s H locs) (hl : lv_has ls 2 [(0, .ref (g k0)), (1, .int x1)]) (hF : fX7_turn_b0 N k0 x1 S = some o) : W p l e (rmd 0) s m args below meth c H locs 0 0 (gE below args s D (xtys cI cB cZ cQ) (xcell g cI cB cZ cQ) xord g none o.2) (F0 m 0 ls []) := by
  unfold fX7_turn_b0 at hF
  refine lv_aload_n C.1.1 C.1.2.1 dX7_turn_0 rfl (lv_at hl 0 rfl) ?_
  refine lv_dup C.1.1 C.1.2.1 dX7_turn_1 rfl ?_
  refine xg_X7_15 C O X (k := k0) hk_k0 dX7_turn_2 ?_
  refine lv_iconst (v := 1) C.1.1 C.1.2.1 dX7_turn_5 (by decide) ?_
  refine lv_iload_n C.1.1 C.1.2.1 dX7_turn_6 rfl (lv_at hl 1 rfl) ?_
  refine lv_ishl C.1.1 C.1.2.1 dX7_turn_7 ?_
  refine lv_ixor C.1.1 C.1.2.1 dX7_turn_8 ?_
  obtain ⟨S1, eS1, hF⟩ := lt_some hF
  refine xp_X7_15 C O X (k := k0) hk_k0 eS1 dX7_turn_9 (fun H locs X => ?_)
  cases hF
  exact g_vret C X dX7_turn_12
noncomputable def fX7_turn (N : Nat) (k0 : Nat) (x1 : Int32) (S : gS) : Option (Int32 × gS) := fX7_turn_b0 N k0 x1 S
theorem kX7_turn {l : Launch} {D : va_G} {g : Nat → Nat} {cI cB cZ cQ : ClassId} {Am : (Nat → Prop) → State → Heap → Prop} (O : xO g cI cB cZ cQ Am) (P : gAm Am) (N : Nat) (k0 : Nat) (x1 : Int32) (hk_k0 : xk k0 = 7) (S : gS) (o : Int32 × gS) (hF : fX7_turn N k0 x1 S = some o) : gM l yX7_turn cX7_turn 2 none 0 D (xtys cI cB cZ cQ) (xcell g cI cB cZ cQ) xord g Am [.ref (g k0), .int x1] S none o.2 :=
  gM_of O.1 P (by decide) (Nat.le_of_ble_eq_true rfl) (fun p e s m args below meth c ls C X hl => bX7_turn_0 C O hk_k0 X (lv_sub hl [0, 1] rfl) hF)
-- X7.enrich
noncomputable def fX7_enrich_b33 (N : Nat) (S : gS) : Option (Int32 × gS) := some (0, S)
theorem bX7_enrich_33 {N : Nat} {S : gS} {H : Heap} {locs : List Loc} {ls : Array Slot} {o : Int32 × gS} (C : gC p s m args meth c cX7_enrich 3 RX7 none D (xtys cI cB cZ cQ) xord g Am) (O : xO g cI cB cZ cQ Am) (X : gX D (xcell g cI cB cZ cQ) xord g S s H locs) (hl : lv_has ls 3 []) (hF : fX7_enrich_b33 N S = some o) : W p l e (rmd 1) s m args below meth c H locs 0 0 (gE below args s D (xtys cI cB cZ cQ) (xcell g cI cB cZ cQ) xord g none o.2) (F0 m 33 ls []) := by
  unfold fX7_enrich_b33 at hF
  cases hF
  exact g_vret C X dX7_enrich_33
noncomputable def fX7_enrich_b13 (N : Nat) (k0 : Nat) (x1 : Int32) (x2 : Int32) (S : gS) : Option (Int32 × gS) := chk (inb x1 6) (chk (inb x1 6) (lt (sU S (k0 + 2) (Int32.toNatClampNeg x1) (if (((S (k0 + 2) (Int32.toNatClampNeg x1)) + x2 : Int32)) < 999 then (((S (k0 + 2) (Int32.toNatClampNeg x1)) + x2 : Int32)) else 999)) fun S1 => (fX7_enrich_b33 N S1)))
theorem bX7_enrich_13 {N : Nat} {k0 : Nat} {x1 : Int32} {x2 : Int32} {S : gS} {H : Heap} {locs : List Loc} {ls : Array Slot} {o : Int32 × gS} (C : gC p s m args meth c cX7_enrich 3 RX7 none D (xtys cI cB cZ cQ) xord g Am) (O : xO g cI cB cZ cQ Am) (hk_k0 : xk k0 = 7) (X : gX D (xcell g cI cB cZ cQ) xord g S s H locs) (hl : lv_has ls 3 [(0, .ref (g k0)), (1, .int x1), (2, .int x2)]) (hF : fX7_enrich_b13 N k0 x1 x2 S = some o) : W p l e (rmd 1) s m args below meth c H locs 0 0 (gE below args s D (xtys cI cB cZ cQ) (xcell g cI cB cZ cQ) xord g none o.2) (F0 m 13 ls []) := by
  unfold fX7_enrich_b13 at hF
  refine lv_aload_n C.1.1 C.1.2.1 dX7_enrich_13 rfl (lv_at hl 0 rfl) ?_
  refine xg_X7_22 C O X (k := k0) hk_k0 (j := k0 + 2) rfl dX7_enrich_14 ?_
  refine lv_iload_n C.1.1 C.1.2.1 dX7_enrich_17 rfl (lv_at hl 1 rfl) ?_
  refine lv_sipush (v := 999) C.1.1 C.1.2.1 dX7_enrich_18 (by decide) ?_
  refine lv_aload_n C.1.1 C.1.2.1 dX7_enrich_21 rfl (lv_at hl 0 rfl) ?_
  refine xg_X7_22 C O X (k := k0) hk_k0 (j := k0 + 2) rfl dX7_enrich_22 ?_
  refine lv_iload_n C.1.1 C.1.2.1 dX7_enrich_25 rfl (lv_at hl 1 rfl) ?_
  obtain ⟨h_1, hF⟩ := chk_some hF
  refine x_rI C X (k := k0 + 2) (xs_7_3 hk_k0).1 (n := 6) (xs_7_3 hk_k0).2  (inb_vp h_1) rfl dX7_enrich_26 ?_
  refine lv_iload_n C.1.1 C.1.2.1 dX7_enrich_27 rfl (lv_at hl 2 rfl) ?_
  refine lv_iadd C.1.1 C.1.2.1 dX7_enrich_28 ?_
  refine g_min C hl.1 xMmin_X7_43 ⟨(Nat.le_of_ble_eq_true rfl), (Nat.le_of_ble_eq_true rfl)⟩ (Nat.le_of_ble_eq_true rfl) (Nat.le_of_ble_eq_true rfl) dX7_enrich_29 ?_
  obtain ⟨h_2, hF⟩ := chk_some hF
  obtain ⟨S1, eS1, hF⟩ := lt_some hF
  refine x_wI C O X (k := k0 + 2) (xs_7_3 hk_k0).1 (n := 6) (xs_7_3 hk_k0).2  (inb_vp h_2) rfl eS1 dX7_enrich_32 (fun H locs X => ?_)
  exact bX7_enrich_33 C O X (lv_sub hl [] rfl) hF
noncomputable def fX7_enrich_b4 (N : Nat) (k0 : Nat) (x1 : Int32) (x2 : Int32) (S : gS) : Option (Int32 × gS) := if 6 ≤ x1 then fX7_enrich_b33 N S else fX7_enrich_b13 N k0 x1 x2 S
theorem bX7_enrich_4 {N : Nat} {k0 : Nat} {x1 : Int32} {x2 : Int32} {S : gS} {H : Heap} {locs : List Loc} {ls : Array Slot} {o : Int32 × gS} (C : gC p s m args meth c cX7_enrich 3 RX7 none D (xtys cI cB cZ cQ) xord g Am) (O : xO g cI cB cZ cQ Am) (hk_k0 : xk k0 = 7) (X : gX D (xcell g cI cB cZ cQ) xord g S s H locs) (hl : lv_has ls 3 [(0, .ref (g k0)), (1, .int x1), (2, .int x2)]) (hF : fX7_enrich_b4 N k0 x1 x2 S = some o) : W p l e (rmd 1) s m args below meth c H locs 0 0 (gE below args s D (xtys cI cB cZ cQ) (xcell g cI cB cZ cQ) xord g none o.2) (F0 m 4 ls []) := by
  unfold fX7_enrich_b4 at hF
  refine lv_iload_n C.1.1 C.1.2.1 dX7_enrich_4 rfl (lv_at hl 1 rfl) ?_
  refine lv_aload_n C.1.1 C.1.2.1 dX7_enrich_5 rfl (lv_at hl 0 rfl) ?_
  refine xg_X7_22 C O X (k := k0) hk_k0 (j := k0 + 2) rfl dX7_enrich_6 ?_
  refine x_lI C X (k := k0 + 2) (xs_7_3 hk_k0).1 (n := 6) (xs_7_3 hk_k0).2 (x := 6) (by decide) dX7_enrich_9 ?_
  refine lv_icmp_ge (tgt := 33) C.1.1 C.1.2.1 dX7_enrich_10 (by decide) (fun h_z => ?_) (fun h_z => ?_)
  · rw [if_pos h_z] at hF
    exact bX7_enrich_33 C O X (lv_sub hl [] rfl) hF
  · rw [if_neg h_z] at hF
    exact bX7_enrich_13 C O (hk_k0 : xk k0 = 7) X (lv_sub hl [0, 1, 2] rfl) hF
noncomputable def fX7_enrich_b0 (N : Nat) (k0 : Nat) (x1 : Int32) (x2 : Int32) (S : gS) : Option (Int32 × gS) := if x1 < 0 then fX7_enrich_b33 N S else fX7_enrich_b4 N k0 x1 x2 S
theorem bX7_enrich_0 {N : Nat} {k0 : Nat} {x1 : Int32} {x2 : Int32} {S : gS} {H : Heap} {locs : List Loc} {ls : Array Slot} {o : Int32 × gS} (C : gC p s m args meth c cX7_enrich 3 RX7 none D (xtys cI cB cZ cQ) xord g Am) (O : xO g cI cB cZ cQ Am) (hk_k0 : xk k0 = 7) (X : gX D (xcell g cI cB cZ cQ) xord g S s H locs) (hl : lv_has ls 3 [(0, .ref (g k0)), (1, .int x1), (2, .int x2)]) (hF : fX7_enrich_b0 N k0 x1 x2 S = some o) : W p l e (rmd 1) s m args below meth c H locs 0 0 (gE below args s D (xtys cI cB cZ cQ) (xcell g cI cB cZ cQ) xord g none o.2) (F0 m 0 ls []) := by
  unfold fX7_enrich_b0 at hF
  refine lv_iload_n C.1.1 C.1.2.1 dX7_enrich_0 rfl (lv_at hl 1 rfl) ?_
  refine lv_if_lt (tgt := 33) C.1.1 C.1.2.1 dX7_enrich_1 (by decide) (fun h_z => ?_) (fun h_z => ?_)
  · rw [if_pos h_z] at hF
    exact bX7_enrich_33 C O X (lv_sub hl [] rfl) hF
  · rw [if_neg h_z] at hF
    exact bX7_enrich_4 C O (hk_k0 : xk k0 = 7) X (lv_sub hl [0, 1, 2] rfl) hF
noncomputable def fX7_enrich (N : Nat) (k0 : Nat) (x1 : Int32) (x2 : Int32) (S : gS) : Option (Int32 × gS) := fX7_enrich_b0 N k0 x1 x2 S
theorem kX7_enrich {l : Launch} {D : va_G} {g : Nat → Nat} {cI cB cZ cQ : ClassId} {Am : (Nat → Prop) → State → Heap → Prop} (O : xO g cI cB cZ cQ Am) (P : gAm Am) (N : Nat) (k0 : Nat) (x1 : Int32) (x2 : Int32) (hk_k0 : xk k0 = 7) (S : gS) (o : Int32 × gS) (hF : fX7_enrich N k0 x1 x2 S = some o) : gM l yX7_enrich cX7_enrich 3 none 1 D (xtys cI cB cZ cQ) (xcell g cI cB cZ cQ) xord g Am [.ref (g k0), .int x1, .int x2] S none o.2 :=
  gM_of O.1 P (by decide) (Nat.le_of_ble_eq_true rfl) (fun p e s m args below meth c ls C X hl => bX7_enrich_0 C O hk_k0 X (lv_sub hl [0, 1, 2] rfl) hF)
-- X7.holderOf
noncomputable def fX7_holderOf_b28 (N : Nat) (S : gS) : Option (Int32 × gS) := some ((-1), S)
theorem bX7_holderOf_28 {N : Nat} {S : gS} {H : Heap} {locs : List Loc} {ls : Array Slot} {o : Int32 × gS} (C : gC p s m args meth c cX7_holderOf 4 RX7 ((some .int)) D (xtys cI cB cZ cQ) xord g Am) (O : xO g cI cB cZ cQ Am) (X : gX D (xcell g cI cB cZ cQ) xord g S s H locs) (hl : lv_has ls 4 []) (hF : fX7_holderOf_b28 N S = some o) : W p l e (rmd 0) s m args below meth c H locs 0 0 (gE below args s D (xtys cI cB cZ cQ) (xcell g cI cB cZ cQ) xord g (some (.int o.1)) o.2) (F0 m 28 ls []) := by
  unfold fX7_holderOf_b28 at hF
  refine lv_iconst (v := (-1)) C.1.1 C.1.2.1 dX7_holderOf_28 (by decide) ?_
  cases hF
  exact g_iret C X dX7_holderOf_29
noncomputable def fX7_holderOf_b22 (N : Nat) (r2 : Nat → Nat → Int32 → Int32 → gS → Option (Int32 × gS)) (k0 : Nat) (k1 : Nat) (x2 : Int32) (x3 : Int32) (S : gS) : Option (Int32 × gS) := r2 k0 k1 x2 ((x3 + 1 : Int32)) S
theorem bX7_holderOf_22 {N : Nat} {r2 : Nat → Nat → Int32 → Int32 → gS → Option (Int32 × gS)} {k0 : Nat} {k1 : Nat} {x2 : Int32} {x3 : Int32} {S : gS} {H : Heap} {locs : List Loc} {ls : Array Slot} {o : Int32 × gS} (C : gC p s m args meth c cX7_holderOf 4 RX7 ((some .int)) D (xtys cI cB cZ cQ) xord g Am) (O : xO g cI cB cZ cQ Am) (K2 : ∀ (k0 : Nat) (k1 : Nat) (x2 : Int32) (x3 : Int32) (hk_k0 : xk k0 = 7) (hk_k1 : xk k1 = 9) (S : gS) (H : Heap) (locs : List Loc) (ls : Array Slot), gX D (xcell g cI cB cZ cQ) xord g S s H locs → lv_has ls 4 [(0, .ref (g k0)), (1, .ref (g k1)), (2, .int x2), (3, .int x3)] → r2 k0 k1 x2 x3 S = some o → W p l e (rmd 0) s m args below meth c H locs 0 0 (gE below args s D (xtys cI cB cZ cQ) (xcell g cI cB cZ cQ) xord g (some (.int o.1)) o.2) (F0 m 2 ls [])) (hk_k0 : xk k0 = 7) (hk_k1 : xk k1 = 9) (X : gX D (xcell g cI cB cZ cQ) xord g S s H locs) (hl : lv_has ls 4 [(0, .ref (g k0)), (1, .ref (g k1)), (2, .int x2), (3, .int x3)]) (hF : fX7_holderOf_b22 N r2 k0 k1 x2 x3 S = some o) : W p l e (rmd 0) s m args below meth c H locs 0 0 (gE below args s D (xtys cI cB cZ cQ) (xcell g cI cB cZ cQ) xord g (some (.int o.1)) o.2) (F0 m 22 ls []) := by
  unfold fX7_holderOf_b22 at hF
  refine lv_iinc (v := (x3 + 1 : Int32)) (lv' := [(3, .int ((x3 + 1 : Int32))), (0, .ref (g k0)), (1, .ref (g k1)), (2, .int x2)]) C.1.1 C.1.2.1 dX7_holderOf_22 hl (k := 3) rfl rfl (by decide) rfl (fun ls hl => ?_)
  refine lv_goto (tgt := 2) C.1.1 C.1.2.1 dX7_holderOf_25 (by decide) ?_
  exact K2 _ _ _ _ (hk_k0 : xk k0 = 7) (hk_k1 : xk k1 = 9) _ _ _ _ X (lv_sub hl [1, 2, 3, 0] rfl) hF
noncomputable def fX7_holderOf_b20 (N : Nat) (x3 : Int32) (S : gS) : Option (Int32 × gS) := some (x3, S)
theorem bX7_holderOf_20 {N : Nat} {x3 : Int32} {S : gS} {H : Heap} {locs : List Loc} {ls : Array Slot} {o : Int32 × gS} (C : gC p s m args meth c cX7_holderOf 4 RX7 ((some .int)) D (xtys cI cB cZ cQ) xord g Am) (O : xO g cI cB cZ cQ Am) (X : gX D (xcell g cI cB cZ cQ) xord g S s H locs) (hl : lv_has ls 4 [(3, .int x3)]) (hF : fX7_holderOf_b20 N x3 S = some o) : W p l e (rmd 0) s m args below meth c H locs 0 0 (gE below args s D (xtys cI cB cZ cQ) (xcell g cI cB cZ cQ) xord g (some (.int o.1)) o.2) (F0 m 20 ls []) := by
  unfold fX7_holderOf_b20 at hF
  refine lv_iload_n C.1.1 C.1.2.1 dX7_holderOf_20 rfl (lv_at hl 0 rfl) ?_
  cases hF
  exact g_iret C X dX7_holderOf_21
noncomputable def fX7_holderOf_b10 (N : Nat) (r2 : Nat → Nat → Int32 → Int32 → gS → Option (Int32 × gS)) (k0 : Nat) (k1 : Nat) (x2 : Int32) (x3 : Int32) (S : gS) : Option (Int32 × gS) := chk (inb x3 6) (if (S (k0 + 4) (Int32.toNatClampNeg x3)) = x2 then fX7_holderOf_b20 N x3 S else fX7_holderOf_b22 N r2 k0 k1 x2 x3 S)
theorem bX7_holderOf_10 {N : Nat} {r2 : Nat → Nat → Int32 → Int32 → gS → Option (Int32 × gS)} {k0 : Nat} {k1 : Nat} {x2 : Int32} {x3 : Int32} {S : gS} {H : Heap} {locs : List Loc} {ls : Array Slot} {o : Int32 × gS} (C : gC p s m args meth c cX7_holderOf 4 RX7 ((some .int)) D (xtys cI cB cZ cQ) xord g Am) (O : xO g cI cB cZ cQ Am) (K2 : ∀ (k0 : Nat) (k1 : Nat) (x2 : Int32) (x3 : Int32) (hk_k0 : xk k0 = 7) (hk_k1 : xk k1 = 9) (S : gS) (H : Heap) (locs : List Loc) (ls : Array Slot), gX D (xcell g cI cB cZ cQ) xord g S s H locs → lv_has ls 4 [(0, .ref (g k0)), (1, .ref (g k1)), (2, .int x2), (3, .int x3)] → r2 k0 k1 x2 x3 S = some o → W p l e (rmd 0) s m args below meth c H locs 0 0 (gE below args s D (xtys cI cB cZ cQ) (xcell g cI cB cZ cQ) xord g (some (.int o.1)) o.2) (F0 m 2 ls [])) (hk_k0 : xk k0 = 7) (hk_k1 : xk k1 = 9) (X : gX D (xcell g cI cB cZ cQ) xord g S s H locs) (hl : lv_has ls 4 [(0, .ref (g k0)), (1, .ref (g k1)), (2, .int x2), (3, .int x3)]) (hF : fX7_holderOf_b10 N r2 k0 k1 x2 x3 S = some o) : W p l e (rmd 0) s m args below meth c H locs 0 0 (gE below args s D (xtys cI cB cZ cQ) (xcell g cI cB cZ cQ) xord g (some (.int o.1)) o.2) (F0 m 10 ls []) := by
  unfold fX7_holderOf_b10 at hF
  refine lv_aload_n C.1.1 C.1.2.1 dX7_holderOf_10 rfl (lv_at hl 0 rfl) ?_
  refine xg_X7_28 C O X (k := k0) hk_k0 (j := k0 + 4) rfl dX7_holderOf_11 ?_
  refine lv_iload_n C.1.1 C.1.2.1 dX7_holderOf_14 rfl (lv_at hl 3 rfl) ?_
  obtain ⟨h_1, hF⟩ := chk_some hF
  refine x_rI C X (k := k0 + 4) (xs_7_5 hk_k0).1 (n := 6) (xs_7_5 hk_k0).2  (inb_vp h_1) rfl dX7_holderOf_15 ?_
  refine lv_iload_n C.1.1 C.1.2.1 dX7_holderOf_16 rfl (lv_at hl 2 rfl) ?_
  refine lv_icmp_ne (tgt := 22) C.1.1 C.1.2.1 dX7_holderOf_17 (by decide) (fun h_z => ?_) (fun h_z => ?_)
  · rw [if_neg h_z] at hF
    exact bX7_holderOf_22 C O K2 (hk_k0 : xk k0 = 7) (hk_k1 : xk k1 = 9) X (lv_sub hl [0, 1, 2, 3] rfl) hF
  · rw [if_pos h_z] at hF
    exact bX7_holderOf_20 C O X (lv_sub hl [3] rfl) hF
noncomputable def fX7_holderOf_b2 (N : Nat) (r2 : Nat → Nat → Int32 → Int32 → gS → Option (Int32 × gS)) (k0 : Nat) (k1 : Nat) (x2 : Int32) (x3 : Int32) (S : gS) : Option (Int32 × gS) := if (S k1 5) ≤ x3 then fX7_holderOf_b28 N S else fX7_holderOf_b10 N r2 k0 k1 x2 x3 S
theorem bX7_holderOf_2 {N : Nat} {r2 : Nat → Nat → Int32 → Int32 → gS → Option (Int32 × gS)} {k0 : Nat} {k1 : Nat} {x2 : Int32} {x3 : Int32} {S : gS} {H : Heap} {locs : List Loc} {ls : Array Slot} {o : Int32 × gS} (C : gC p s m args meth c cX7_holderOf 4 RX7 ((some .int)) D (xtys cI cB cZ cQ) xord g Am) (O : xO g cI cB cZ cQ Am) (K2 : ∀ (k0 : Nat) (k1 : Nat) (x2 : Int32) (x3 : Int32) (hk_k0 : xk k0 = 7) (hk_k1 : xk k1 = 9) (S : gS) (H : Heap) (locs : List Loc) (ls : Array Slot), gX D (xcell g cI cB cZ cQ) xord g S s H locs → lv_has ls 4 [(0, .ref (g k0)), (1, .ref (g k1)), (2, .int x2), (3, .int x3)] → r2 k0 k1 x2 x3 S = some o → W p l e (rmd 0) s m args below meth c H locs 0 0 (gE below args s D (xtys cI cB cZ cQ) (xcell g cI cB cZ cQ) xord g (some (.int o.1)) o.2) (F0 m 2 ls [])) (hk_k0 : xk k0 = 7) (hk_k1 : xk k1 = 9) (X : gX D (xcell g cI cB cZ cQ) xord g S s H locs) (hl : lv_has ls 4 [(0, .ref (g k0)), (1, .ref (g k1)), (2, .int x2), (3, .int x3)]) (hF : fX7_holderOf_b2 N r2 k0 k1 x2 x3 S = some o) : W p l e (rmd 0) s m args below meth c H locs 0 0 (gE below args s D (xtys cI cB cZ cQ) (xcell g cI cB cZ cQ) xord g (some (.int o.1)) o.2) (F0 m 2 ls []) := by
  unfold fX7_holderOf_b2 at hF
  refine lv_iload_n C.1.1 C.1.2.1 dX7_holderOf_2 rfl (lv_at hl 3 rfl) ?_
  refine lv_aload_n C.1.1 C.1.2.1 dX7_holderOf_3 rfl (lv_at hl 1 rfl) ?_
  refine xg_X7_31 C O X (k := k1) hk_k1 dX7_holderOf_4 ?_
  refine lv_icmp_ge (tgt := 28) C.1.1 C.1.2.1 dX7_holderOf_7 (by decide) (fun h_z => ?_) (fun h_z => ?_)
  · rw [if_pos h_z] at hF
    exact bX7_holderOf_28 C O X (lv_sub hl [] rfl) hF
  · rw [if_neg h_z] at hF
    exact bX7_holderOf_10 C O K2 (hk_k0 : xk k0 = 7) (hk_k1 : xk k1 = 9) X (lv_sub hl [0, 1, 2, 3] rfl) hF
noncomputable def fX7_holderOf_h2 (N : Nat) : Nat → Nat → Nat → Int32 → Int32 → gS → Option (Int32 × gS)
  | 0, _, _, _, _, _ => none
  | n + 1, k0, k1, x2, x3, S => fX7_holderOf_b2 N (fX7_holderOf_h2 N n) k0 k1 x2 x3 S
theorem hX7_holderOf_2 {N : Nat} {o : Int32 × gS} (C : gC p s m args meth c cX7_holderOf 4 RX7 ((some .int)) D (xtys cI cB cZ cQ) xord g Am) (O : xO g cI cB cZ cQ Am) : ∀ (n : Nat) (k0 : Nat) (k1 : Nat) (x2 : Int32) (x3 : Int32) (hk_k0 : xk k0 = 7) (hk_k1 : xk k1 = 9) (S : gS) (H : Heap) (locs : List Loc) (ls : Array Slot), gX D (xcell g cI cB cZ cQ) xord g S s H locs → lv_has ls 4 [(0, .ref (g k0)), (1, .ref (g k1)), (2, .int x2), (3, .int x3)] → fX7_holderOf_h2 N n k0 k1 x2 x3 S = some o → W p l e (rmd 0) s m args below meth c H locs 0 0 (gE below args s D (xtys cI cB cZ cQ) (xcell g cI cB cZ cQ) xord g (some (.int o.1)) o.2) (F0 m 2 ls []) := by
  intro n
  induction n with
  | zero =>
    intro k0 k1 x2 x3 hk_k0 hk_k1 S H locs ls X hl hF
    exact absurd (show (none : Option (Int32 × gS)) = some o from hF) (by simp)
  | succ n ih =>
    intro k0 k1 x2 x3 hk_k0 hk_k1 S H locs ls X hl hF
    have hF : fX7_holderOf_b2 N (fX7_holderOf_h2 N n) k0 k1 x2 x3 S = some o := hF
    exact bX7_holderOf_2 C O ih hk_k0 hk_k1 X hl hF
noncomputable def fX7_holderOf_b0 (N : Nat) (k0 : Nat) (k1 : Nat) (x2 : Int32) (S : gS) : Option (Int32 × gS) := fX7_holderOf_h2 N N k0 k1 x2 0 S
theorem bX7_holderOf_0 {N : Nat} {k0 : Nat} {k1 : Nat} {x2 : Int32} {S : gS} {H : Heap} {locs : List Loc} {ls : Array Slot} {o : Int32 × gS} (C : gC p s m args meth c cX7_holderOf 4 RX7 ((some .int)) D (xtys cI cB cZ cQ) xord g Am) (O : xO g cI cB cZ cQ Am) (hk_k0 : xk k0 = 7) (hk_k1 : xk k1 = 9) (X : gX D (xcell g cI cB cZ cQ) xord g S s H locs) (hl : lv_has ls 4 [(0, .ref (g k0)), (1, .ref (g k1)), (2, .int x2)]) (hF : fX7_holderOf_b0 N k0 k1 x2 S = some o) : W p l e (rmd 0) s m args below meth c H locs 0 0 (gE below args s D (xtys cI cB cZ cQ) (xcell g cI cB cZ cQ) xord g (some (.int o.1)) o.2) (F0 m 0 ls []) := by
  unfold fX7_holderOf_b0 at hF
  refine lv_iconst (v := 0) C.1.1 C.1.2.1 dX7_holderOf_0 (by decide) ?_
  refine lv_istore_n (lv' := [(3, .int 0), (0, .ref (g k0)), (1, .ref (g k1)), (2, .int x2)]) C.1.1 C.1.2.1 dX7_holderOf_1 rfl hl (by decide) rfl (fun ls hl => ?_)
  exact hX7_holderOf_2 C O N _ _ _ _ (hk_k0 : xk k0 = 7) (hk_k1 : xk k1 = 9) _ _ _ _ X (lv_sub hl [1, 2, 3, 0] rfl) hF
noncomputable def fX7_holderOf (N : Nat) (k0 : Nat) (k1 : Nat) (x2 : Int32) (S : gS) : Option (Int32 × gS) := fX7_holderOf_b0 N k0 k1 x2 S
theorem kX7_holderOf {l : Launch} {D : va_G} {g : Nat → Nat} {cI cB cZ cQ : ClassId} {Am : (Nat → Prop) → State → Heap → Prop} (O : xO g cI cB cZ cQ Am) (P : gAm Am) (N : Nat) (k0 : Nat) (k1 : Nat) (x2 : Int32) (hk_k0 : xk k0 = 7) (hk_k1 : xk k1 = 9) (S : gS) (o : Int32 × gS) (hF : fX7_holderOf N k0 k1 x2 S = some o) : gM l yX7_holderOf cX7_holderOf 4 ((some .int)) 0 D (xtys cI cB cZ cQ) (xcell g cI cB cZ cQ) xord g Am [.ref (g k0), .ref (g k1), .int x2] S (some (.int o.1)) o.2 :=
  gM_of O.1 P (by decide) (Nat.le_of_ble_eq_true rfl) (fun p e s m args below meth c ls C X hl => bX7_holderOf_0 C O hk_k0 hk_k1 X (lv_sub hl [0, 1, 2] rfl) hF)
-- X7.hiredBits
noncomputable def fX7_hiredBits_b39 (N : Nat) (x2 : Int32) (S : gS) : Option (Int32 × gS) := some (x2, S)
theorem bX7_hiredBits_39 {N : Nat} {x2 : Int32} {S : gS} {H : Heap} {locs : List Loc} {ls : Array Slot} {o : Int32 × gS} (C : gC p s m args meth c cX7_hiredBits 4 RX7 ((some .int)) D (xtys cI cB cZ cQ) xord g Am) (O : xO g cI cB cZ cQ Am) (X : gX D (xcell g cI cB cZ cQ) xord g S s H locs) (hl : lv_has ls 4 [(2, .int x2)]) (hF : fX7_hiredBits_b39 N x2 S = some o) : W p l e (rmd 0) s m args below meth c H locs 0 0 (gE below args s D (xtys cI cB cZ cQ) (xcell g cI cB cZ cQ) xord g (some (.int o.1)) o.2) (F0 m 39 ls []) := by
  unfold fX7_hiredBits_b39 at hF
  refine lv_iload_n C.1.1 C.1.2.1 dX7_hiredBits_39 rfl (lv_at hl 0 rfl) ?_
  cases hF
  exact g_iret C X dX7_hiredBits_40
noncomputable def fX7_hiredBits_b33 (N : Nat) (r4 : Nat → Nat → Int32 → Int32 → gS → Option (Int32 × gS)) (k0 : Nat) (k1 : Nat) (x2 : Int32) (x3 : Int32) (S : gS) : Option (Int32 × gS) := r4 k0 k1 x2 ((x3 + 1 : Int32)) S
theorem bX7_hiredBits_33 {N : Nat} {r4 : Nat → Nat → Int32 → Int32 → gS → Option (Int32 × gS)} {k0 : Nat} {k1 : Nat} {x2 : Int32} {x3 : Int32} {S : gS} {H : Heap} {locs : List Loc} {ls : Array Slot} {o : Int32 × gS} (C : gC p s m args meth c cX7_hiredBits 4 RX7 ((some .int)) D (xtys cI cB cZ cQ) xord g Am) (O : xO g cI cB cZ cQ Am) (K4 : ∀ (k0 : Nat) (k1 : Nat) (x2 : Int32) (x3 : Int32) (hk_k0 : xk k0 = 7) (hk_k1 : xk k1 = 9) (S : gS) (H : Heap) (locs : List Loc) (ls : Array Slot), gX D (xcell g cI cB cZ cQ) xord g S s H locs → lv_has ls 4 [(0, .ref (g k0)), (1, .ref (g k1)), (2, .int x2), (3, .int x3)] → r4 k0 k1 x2 x3 S = some o → W p l e (rmd 0) s m args below meth c H locs 0 0 (gE below args s D (xtys cI cB cZ cQ) (xcell g cI cB cZ cQ) xord g (some (.int o.1)) o.2) (F0 m 4 ls [])) (hk_k0 : xk k0 = 7) (hk_k1 : xk k1 = 9) (X : gX D (xcell g cI cB cZ cQ) xord g S s H locs) (hl : lv_has ls 4 [(0, .ref (g k0)), (1, .ref (g k1)), (2, .int x2), (3, .int x3)]) (hF : fX7_hiredBits_b33 N r4 k0 k1 x2 x3 S = some o) : W p l e (rmd 0) s m args below meth c H locs 0 0 (gE below args s D (xtys cI cB cZ cQ) (xcell g cI cB cZ cQ) xord g (some (.int o.1)) o.2) (F0 m 33 ls []) := by
  unfold fX7_hiredBits_b33 at hF
  refine lv_iinc (v := (x3 + 1 : Int32)) (lv' := [(3, .int ((x3 + 1 : Int32))), (0, .ref (g k0)), (1, .ref (g k1)), (2, .int x2)]) C.1.1 C.1.2.1 dX7_hiredBits_33 hl (k := 3) rfl rfl (by decide) rfl (fun ls hl => ?_)
  refine lv_goto (tgt := 4) C.1.1 C.1.2.1 dX7_hiredBits_36 (by decide) ?_
  exact K4 _ _ _ _ (hk_k0 : xk k0 = 7) (hk_k1 : xk k1 = 9) _ _ _ _ X (lv_sub hl [1, 2, 3, 0] rfl) hF
noncomputable def fX7_hiredBits_b22 (N : Nat) (r4 : Nat → Nat → Int32 → Int32 → gS → Option (Int32 × gS)) (k0 : Nat) (k1 : Nat) (x2 : Int32) (x3 : Int32) (S : gS) : Option (Int32 × gS) := chk (inb x3 6) (fX7_hiredBits_b33 N r4 k0 k1 ((x2 ||| (((1 : Int32) <<< ((S (k0 + 4) (Int32.toNatClampNeg x3)) &&& 31) : Int32)) : Int32)) x3 S)
theorem bX7_hiredBits_22 {N : Nat} {r4 : Nat → Nat → Int32 → Int32 → gS → Option (Int32 × gS)} {k0 : Nat} {k1 : Nat} {x2 : Int32} {x3 : Int32} {S : gS} {H : Heap} {locs : List Loc} {ls : Array Slot} {o : Int32 × gS} (C : gC p s m args meth c cX7_hiredBits 4 RX7 ((some .int)) D (xtys cI cB cZ cQ) xord g Am) (O : xO g cI cB cZ cQ Am) (K4 : ∀ (k0 : Nat) (k1 : Nat) (x2 : Int32) (x3 : Int32) (hk_k0 : xk k0 = 7) (hk_k1 : xk k1 = 9) (S : gS) (H : Heap) (locs : List Loc) (ls : Array Slot), gX D (xcell g cI cB cZ cQ) xord g S s H locs → lv_has ls 4 [(0, .ref (g k0)), (1, .ref (g k1)), (2, .int x2), (3, .int x3)] → r4 k0 k1 x2 x3 S = some o → W p l e (rmd 0) s m args below meth c H locs 0 0 (gE below args s D (xtys cI cB cZ cQ) (xcell g cI cB cZ cQ) xord g (some (.int o.1)) o.2) (F0 m 4 ls [])) (hk_k0 : xk k0 = 7) (hk_k1 : xk k1 = 9) (X : gX D (xcell g cI cB cZ cQ) xord g S s H locs) (hl : lv_has ls 4 [(0, .ref (g k0)), (1, .ref (g k1)), (2, .int x2), (3, .int x3)]) (hF : fX7_hiredBits_b22 N r4 k0 k1 x2 x3 S = some o) : W p l e (rmd 0) s m args below meth c H locs 0 0 (gE below args s D (xtys cI cB cZ cQ) (xcell g cI cB cZ cQ) xord g (some (.int o.1)) o.2) (F0 m 22 ls []) := by
  unfold fX7_hiredBits_b22 at hF
  refine lv_iload_n C.1.1 C.1.2.1 dX7_hiredBits_22 rfl (lv_at hl 2 rfl) ?_
  refine lv_iconst (v := 1) C.1.1 C.1.2.1 dX7_hiredBits_23 (by decide) ?_
  refine lv_aload_n C.1.1 C.1.2.1 dX7_hiredBits_24 rfl (lv_at hl 0 rfl) ?_
  refine xg_X7_28 C O X (k := k0) hk_k0 (j := k0 + 4) rfl dX7_hiredBits_25 ?_
  refine lv_iload_n C.1.1 C.1.2.1 dX7_hiredBits_28 rfl (lv_at hl 3 rfl) ?_
  obtain ⟨h_1, hF⟩ := chk_some hF
  refine x_rI C X (k := k0 + 4) (xs_7_5 hk_k0).1 (n := 6) (xs_7_5 hk_k0).2  (inb_vp h_1) rfl dX7_hiredBits_29 ?_
  refine lv_ishl C.1.1 C.1.2.1 dX7_hiredBits_30 ?_
  refine lv_ior C.1.1 C.1.2.1 dX7_hiredBits_31 ?_
  refine lv_istore_n (lv' := [(2, .int ((x2 ||| (((1 : Int32) <<< ((S (k0 + 4) (Int32.toNatClampNeg x3)) &&& 31) : Int32)) : Int32))), (0, .ref (g k0)), (1, .ref (g k1)), (3, .int x3)]) C.1.1 C.1.2.1 dX7_hiredBits_32 rfl hl (by decide) rfl (fun ls hl => ?_)
  exact bX7_hiredBits_33 C O K4 (hk_k0 : xk k0 = 7) (hk_k1 : xk k1 = 9) X (lv_sub hl [1, 2, 0, 3] rfl) hF
noncomputable def fX7_hiredBits_b12 (N : Nat) (r4 : Nat → Nat → Int32 → Int32 → gS → Option (Int32 × gS)) (k0 : Nat) (k1 : Nat) (x2 : Int32) (x3 : Int32) (S : gS) : Option (Int32 × gS) := chk (inb x3 6) (if (S (k0 + 4) (Int32.toNatClampNeg x3)) = ((-1)) then fX7_hiredBits_b33 N r4 k0 k1 x2 x3 S else fX7_hiredBits_b22 N r4 k0 k1 x2 x3 S)
theorem bX7_hiredBits_12 {N : Nat} {r4 : Nat → Nat → Int32 → Int32 → gS → Option (Int32 × gS)} {k0 : Nat} {k1 : Nat} {x2 : Int32} {x3 : Int32} {S : gS} {H : Heap} {locs : List Loc} {ls : Array Slot} {o : Int32 × gS} (C : gC p s m args meth c cX7_hiredBits 4 RX7 ((some .int)) D (xtys cI cB cZ cQ) xord g Am) (O : xO g cI cB cZ cQ Am) (K4 : ∀ (k0 : Nat) (k1 : Nat) (x2 : Int32) (x3 : Int32) (hk_k0 : xk k0 = 7) (hk_k1 : xk k1 = 9) (S : gS) (H : Heap) (locs : List Loc) (ls : Array Slot), gX D (xcell g cI cB cZ cQ) xord g S s H locs → lv_has ls 4 [(0, .ref (g k0)), (1, .ref (g k1)), (2, .int x2), (3, .int x3)] → r4 k0 k1 x2 x3 S = some o → W p l e (rmd 0) s m args below meth c H locs 0 0 (gE below args s D (xtys cI cB cZ cQ) (xcell g cI cB cZ cQ) xord g (some (.int o.1)) o.2) (F0 m 4 ls [])) (hk_k0 : xk k0 = 7) (hk_k1 : xk k1 = 9) (X : gX D (xcell g cI cB cZ cQ) xord g S s H locs) (hl : lv_has ls 4 [(0, .ref (g k0)), (1, .ref (g k1)), (2, .int x2), (3, .int x3)]) (hF : fX7_hiredBits_b12 N r4 k0 k1 x2 x3 S = some o) : W p l e (rmd 0) s m args below meth c H locs 0 0 (gE below args s D (xtys cI cB cZ cQ) (xcell g cI cB cZ cQ) xord g (some (.int o.1)) o.2) (F0 m 12 ls []) := by
  unfold fX7_hiredBits_b12 at hF
  refine lv_aload_n C.1.1 C.1.2.1 dX7_hiredBits_12 rfl (lv_at hl 0 rfl) ?_
  refine xg_X7_28 C O X (k := k0) hk_k0 (j := k0 + 4) rfl dX7_hiredBits_13 ?_
  refine lv_iload_n C.1.1 C.1.2.1 dX7_hiredBits_16 rfl (lv_at hl 3 rfl) ?_
  obtain ⟨h_1, hF⟩ := chk_some hF
  refine x_rI C X (k := k0 + 4) (xs_7_5 hk_k0).1 (n := 6) (xs_7_5 hk_k0).2  (inb_vp h_1) rfl dX7_hiredBits_17 ?_
  refine lv_iconst (v := (-1)) C.1.1 C.1.2.1 dX7_hiredBits_18 (by decide) ?_
  refine lv_icmp_eq (tgt := 33) C.1.1 C.1.2.1 dX7_hiredBits_19 (by decide) (fun h_z => ?_) (fun h_z => ?_)
  · rw [if_pos h_z] at hF
    exact bX7_hiredBits_33 C O K4 (hk_k0 : xk k0 = 7) (hk_k1 : xk k1 = 9) X (lv_sub hl [0, 1, 2, 3] rfl) hF
  · rw [if_neg h_z] at hF
    exact bX7_hiredBits_22 C O K4 (hk_k0 : xk k0 = 7) (hk_k1 : xk k1 = 9) X (lv_sub hl [0, 1, 2, 3] rfl) hF
noncomputable def fX7_hiredBits_b4 (N : Nat) (r4 : Nat → Nat → Int32 → Int32 → gS → Option (Int32 × gS)) (k0 : Nat) (k1 : Nat) (x2 : Int32) (x3 : Int32) (S : gS) : Option (Int32 × gS) := if (S k1 5) ≤ x3 then fX7_hiredBits_b39 N x2 S else fX7_hiredBits_b12 N r4 k0 k1 x2 x3 S
theorem bX7_hiredBits_4 {N : Nat} {r4 : Nat → Nat → Int32 → Int32 → gS → Option (Int32 × gS)} {k0 : Nat} {k1 : Nat} {x2 : Int32} {x3 : Int32} {S : gS} {H : Heap} {locs : List Loc} {ls : Array Slot} {o : Int32 × gS} (C : gC p s m args meth c cX7_hiredBits 4 RX7 ((some .int)) D (xtys cI cB cZ cQ) xord g Am) (O : xO g cI cB cZ cQ Am) (K4 : ∀ (k0 : Nat) (k1 : Nat) (x2 : Int32) (x3 : Int32) (hk_k0 : xk k0 = 7) (hk_k1 : xk k1 = 9) (S : gS) (H : Heap) (locs : List Loc) (ls : Array Slot), gX D (xcell g cI cB cZ cQ) xord g S s H locs → lv_has ls 4 [(0, .ref (g k0)), (1, .ref (g k1)), (2, .int x2), (3, .int x3)] → r4 k0 k1 x2 x3 S = some o → W p l e (rmd 0) s m args below meth c H locs 0 0 (gE below args s D (xtys cI cB cZ cQ) (xcell g cI cB cZ cQ) xord g (some (.int o.1)) o.2) (F0 m 4 ls [])) (hk_k0 : xk k0 = 7) (hk_k1 : xk k1 = 9) (X : gX D (xcell g cI cB cZ cQ) xord g S s H locs) (hl : lv_has ls 4 [(0, .ref (g k0)), (1, .ref (g k1)), (2, .int x2), (3, .int x3)]) (hF : fX7_hiredBits_b4 N r4 k0 k1 x2 x3 S = some o) : W p l e (rmd 0) s m args below meth c H locs 0 0 (gE below args s D (xtys cI cB cZ cQ) (xcell g cI cB cZ cQ) xord g (some (.int o.1)) o.2) (F0 m 4 ls []) := by
  unfold fX7_hiredBits_b4 at hF
  refine lv_iload_n C.1.1 C.1.2.1 dX7_hiredBits_4 rfl (lv_at hl 3 rfl) ?_
  refine lv_aload_n C.1.1 C.1.2.1 dX7_hiredBits_5 rfl (lv_at hl 1 rfl) ?_
  refine xg_X7_31 C O X (k := k1) hk_k1 dX7_hiredBits_6 ?_
  refine lv_icmp_ge (tgt := 39) C.1.1 C.1.2.1 dX7_hiredBits_9 (by decide) (fun h_z => ?_) (fun h_z => ?_)
  · rw [if_pos h_z] at hF
    exact bX7_hiredBits_39 C O X (lv_sub hl [2] rfl) hF
  · rw [if_neg h_z] at hF
    exact bX7_hiredBits_12 C O K4 (hk_k0 : xk k0 = 7) (hk_k1 : xk k1 = 9) X (lv_sub hl [0, 1, 2, 3] rfl) hF
noncomputable def fX7_hiredBits_h4 (N : Nat) : Nat → Nat → Nat → Int32 → Int32 → gS → Option (Int32 × gS)
  | 0, _, _, _, _, _ => none
  | n + 1, k0, k1, x2, x3, S => fX7_hiredBits_b4 N (fX7_hiredBits_h4 N n) k0 k1 x2 x3 S
theorem hX7_hiredBits_4 {N : Nat} {o : Int32 × gS} (C : gC p s m args meth c cX7_hiredBits 4 RX7 ((some .int)) D (xtys cI cB cZ cQ) xord g Am) (O : xO g cI cB cZ cQ Am) : ∀ (n : Nat) (k0 : Nat) (k1 : Nat) (x2 : Int32) (x3 : Int32) (hk_k0 : xk k0 = 7) (hk_k1 : xk k1 = 9) (S : gS) (H : Heap) (locs : List Loc) (ls : Array Slot), gX D (xcell g cI cB cZ cQ) xord g S s H locs → lv_has ls 4 [(0, .ref (g k0)), (1, .ref (g k1)), (2, .int x2), (3, .int x3)] → fX7_hiredBits_h4 N n k0 k1 x2 x3 S = some o → W p l e (rmd 0) s m args below meth c H locs 0 0 (gE below args s D (xtys cI cB cZ cQ) (xcell g cI cB cZ cQ) xord g (some (.int o.1)) o.2) (F0 m 4 ls []) := by
  intro n
  induction n with
  | zero =>
    intro k0 k1 x2 x3 hk_k0 hk_k1 S H locs ls X hl hF
    exact absurd (show (none : Option (Int32 × gS)) = some o from hF) (by simp)
  | succ n ih =>
    intro k0 k1 x2 x3 hk_k0 hk_k1 S H locs ls X hl hF
    have hF : fX7_hiredBits_b4 N (fX7_hiredBits_h4 N n) k0 k1 x2 x3 S = some o := hF
    exact bX7_hiredBits_4 C O ih hk_k0 hk_k1 X hl hF
noncomputable def fX7_hiredBits_b0 (N : Nat) (k0 : Nat) (k1 : Nat) (S : gS) : Option (Int32 × gS) := fX7_hiredBits_h4 N N k0 k1 0 0 S
theorem bX7_hiredBits_0 {N : Nat} {k0 : Nat} {k1 : Nat} {S : gS} {H : Heap} {locs : List Loc} {ls : Array Slot} {o : Int32 × gS} (C : gC p s m args meth c cX7_hiredBits 4 RX7 ((some .int)) D (xtys cI cB cZ cQ) xord g Am) (O : xO g cI cB cZ cQ Am) (hk_k0 : xk k0 = 7) (hk_k1 : xk k1 = 9) (X : gX D (xcell g cI cB cZ cQ) xord g S s H locs) (hl : lv_has ls 4 [(0, .ref (g k0)), (1, .ref (g k1))]) (hF : fX7_hiredBits_b0 N k0 k1 S = some o) : W p l e (rmd 0) s m args below meth c H locs 0 0 (gE below args s D (xtys cI cB cZ cQ) (xcell g cI cB cZ cQ) xord g (some (.int o.1)) o.2) (F0 m 0 ls []) := by
  unfold fX7_hiredBits_b0 at hF
  refine lv_iconst (v := 0) C.1.1 C.1.2.1 dX7_hiredBits_0 (by decide) ?_
  refine lv_istore_n (lv' := [(2, .int 0), (0, .ref (g k0)), (1, .ref (g k1))]) C.1.1 C.1.2.1 dX7_hiredBits_1 rfl hl (by decide) rfl (fun ls hl => ?_)
  refine lv_iconst (v := 0) C.1.1 C.1.2.1 dX7_hiredBits_2 (by decide) ?_
  refine lv_istore_n (lv' := [(3, .int 0), (2, .int 0), (0, .ref (g k0)), (1, .ref (g k1))]) C.1.1 C.1.2.1 dX7_hiredBits_3 rfl hl (by decide) rfl (fun ls hl => ?_)
  exact hX7_hiredBits_4 C O N _ _ _ _ (hk_k0 : xk k0 = 7) (hk_k1 : xk k1 = 9) _ _ _ _ X (lv_sub hl [2, 3, 1, 0] rfl) hF
noncomputable def fX7_hiredBits (N : Nat) (k0 : Nat) (k1 : Nat) (S : gS) : Option (Int32 × gS) := fX7_hiredBits_b0 N k0 k1 S
theorem kX7_hiredBits {l : Launch} {D : va_G} {g : Nat → Nat} {cI cB cZ cQ : ClassId} {Am : (Nat → Prop) → State → Heap → Prop} (O : xO g cI cB cZ cQ Am) (P : gAm Am) (N : Nat) (k0 : Nat) (k1 : Nat) (hk_k0 : xk k0 = 7) (hk_k1 : xk k1 = 9) (S : gS) (o : Int32 × gS) (hF : fX7_hiredBits N k0 k1 S = some o) : gM l yX7_hiredBits cX7_hiredBits 4 ((some .int)) 0 D (xtys cI cB cZ cQ) (xcell g cI cB cZ cQ) xord g Am [.ref (g k0), .ref (g k1)] S (some (.int o.1)) o.2 :=
  gM_of O.1 P (by decide) (Nat.le_of_ble_eq_true rfl) (fun p e s m args below meth c ls C X hl => bX7_hiredBits_0 C O hk_k0 hk_k1 X (lv_sub hl [0, 1] rfl) hF)
-- X7.purses
noncomputable def fX7_purses_b27 (N : Nat) (x2 : Int32) (S : gS) : Option (Int32 × gS) := some (x2, S)
theorem bX7_purses_27 {N : Nat} {x2 : Int32} {S : gS} {H : Heap} {locs : List Loc} {ls : Array Slot} {o : Int32 × gS} (C : gC p s m args meth c cX7_purses 4 RX7 ((some .int)) D (xtys cI cB cZ cQ) xord g Am) (O : xO g cI cB cZ cQ Am) (X : gX D (xcell g cI cB cZ cQ) xord g S s H locs) (hl : lv_has ls 4 [(2, .int x2)]) (hF : fX7_purses_b27 N x2 S = some o) : W p l e (rmd 0) s m args below meth c H locs 0 0 (gE below args s D (xtys cI cB cZ cQ) (xcell g cI cB cZ cQ) xord g (some (.int o.1)) o.2) (F0 m 27 ls []) := by
  unfold fX7_purses_b27 at hF
  refine lv_iload_n C.1.1 C.1.2.1 dX7_purses_27 rfl (lv_at hl 0 rfl) ?_
  cases hF
  exact g_iret C X dX7_purses_28
noncomputable def fX7_purses_b12 (N : Nat) (r4 : Nat → Nat → Int32 → Int32 → gS → Option (Int32 × gS)) (k0 : Nat) (k1 : Nat) (x2 : Int32) (x3 : Int32) (S : gS) : Option (Int32 × gS) := chk (inb x3 6) (r4 k0 k1 ((x2 + (S (k0 + 2) (Int32.toNatClampNeg x3)) : Int32)) ((x3 + 1 : Int32)) S)
theorem bX7_purses_12 {N : Nat} {r4 : Nat → Nat → Int32 → Int32 → gS → Option (Int32 × gS)} {k0 : Nat} {k1 : Nat} {x2 : Int32} {x3 : Int32} {S : gS} {H : Heap} {locs : List Loc} {ls : Array Slot} {o : Int32 × gS} (C : gC p s m args meth c cX7_purses 4 RX7 ((some .int)) D (xtys cI cB cZ cQ) xord g Am) (O : xO g cI cB cZ cQ Am) (K4 : ∀ (k0 : Nat) (k1 : Nat) (x2 : Int32) (x3 : Int32) (hk_k0 : xk k0 = 7) (hk_k1 : xk k1 = 9) (S : gS) (H : Heap) (locs : List Loc) (ls : Array Slot), gX D (xcell g cI cB cZ cQ) xord g S s H locs → lv_has ls 4 [(0, .ref (g k0)), (1, .ref (g k1)), (2, .int x2), (3, .int x3)] → r4 k0 k1 x2 x3 S = some o → W p l e (rmd 0) s m args below meth c H locs 0 0 (gE below args s D (xtys cI cB cZ cQ) (xcell g cI cB cZ cQ) xord g (some (.int o.1)) o.2) (F0 m 4 ls [])) (hk_k0 : xk k0 = 7) (hk_k1 : xk k1 = 9) (X : gX D (xcell g cI cB cZ cQ) xord g S s H locs) (hl : lv_has ls 4 [(0, .ref (g k0)), (1, .ref (g k1)), (2, .int x2), (3, .int x3)]) (hF : fX7_purses_b12 N r4 k0 k1 x2 x3 S = some o) : W p l e (rmd 0) s m args below meth c H locs 0 0 (gE below args s D (xtys cI cB cZ cQ) (xcell g cI cB cZ cQ) xord g (some (.int o.1)) o.2) (F0 m 12 ls []) := by
  unfold fX7_purses_b12 at hF
  refine lv_iload_n C.1.1 C.1.2.1 dX7_purses_12 rfl (lv_at hl 2 rfl) ?_
  refine lv_aload_n C.1.1 C.1.2.1 dX7_purses_13 rfl (lv_at hl 0 rfl) ?_
  refine xg_X7_22 C O X (k := k0) hk_k0 (j := k0 + 2) rfl dX7_purses_14 ?_
  refine lv_iload_n C.1.1 C.1.2.1 dX7_purses_17 rfl (lv_at hl 3 rfl) ?_
  obtain ⟨h_1, hF⟩ := chk_some hF
  refine x_rI C X (k := k0 + 2) (xs_7_3 hk_k0).1 (n := 6) (xs_7_3 hk_k0).2  (inb_vp h_1) rfl dX7_purses_18 ?_
  refine lv_iadd C.1.1 C.1.2.1 dX7_purses_19 ?_
  refine lv_istore_n (lv' := [(2, .int ((x2 + (S (k0 + 2) (Int32.toNatClampNeg x3)) : Int32))), (0, .ref (g k0)), (1, .ref (g k1)), (3, .int x3)]) C.1.1 C.1.2.1 dX7_purses_20 rfl hl (by decide) rfl (fun ls hl => ?_)
  refine lv_iinc (v := (x3 + 1 : Int32)) (lv' := [(3, .int ((x3 + 1 : Int32))), (2, .int ((x2 + (S (k0 + 2) (Int32.toNatClampNeg x3)) : Int32))), (0, .ref (g k0)), (1, .ref (g k1))]) C.1.1 C.1.2.1 dX7_purses_21 hl (k := 3) rfl rfl (by decide) rfl (fun ls hl => ?_)
  refine lv_goto (tgt := 4) C.1.1 C.1.2.1 dX7_purses_24 (by decide) ?_
  exact K4 _ _ _ _ (hk_k0 : xk k0 = 7) (hk_k1 : xk k1 = 9) _ _ _ _ X (lv_sub hl [2, 3, 1, 0] rfl) hF
noncomputable def fX7_purses_b4 (N : Nat) (r4 : Nat → Nat → Int32 → Int32 → gS → Option (Int32 × gS)) (k0 : Nat) (k1 : Nat) (x2 : Int32) (x3 : Int32) (S : gS) : Option (Int32 × gS) := if (S k1 5) ≤ x3 then fX7_purses_b27 N x2 S else fX7_purses_b12 N r4 k0 k1 x2 x3 S
theorem bX7_purses_4 {N : Nat} {r4 : Nat → Nat → Int32 → Int32 → gS → Option (Int32 × gS)} {k0 : Nat} {k1 : Nat} {x2 : Int32} {x3 : Int32} {S : gS} {H : Heap} {locs : List Loc} {ls : Array Slot} {o : Int32 × gS} (C : gC p s m args meth c cX7_purses 4 RX7 ((some .int)) D (xtys cI cB cZ cQ) xord g Am) (O : xO g cI cB cZ cQ Am) (K4 : ∀ (k0 : Nat) (k1 : Nat) (x2 : Int32) (x3 : Int32) (hk_k0 : xk k0 = 7) (hk_k1 : xk k1 = 9) (S : gS) (H : Heap) (locs : List Loc) (ls : Array Slot), gX D (xcell g cI cB cZ cQ) xord g S s H locs → lv_has ls 4 [(0, .ref (g k0)), (1, .ref (g k1)), (2, .int x2), (3, .int x3)] → r4 k0 k1 x2 x3 S = some o → W p l e (rmd 0) s m args below meth c H locs 0 0 (gE below args s D (xtys cI cB cZ cQ) (xcell g cI cB cZ cQ) xord g (some (.int o.1)) o.2) (F0 m 4 ls [])) (hk_k0 : xk k0 = 7) (hk_k1 : xk k1 = 9) (X : gX D (xcell g cI cB cZ cQ) xord g S s H locs) (hl : lv_has ls 4 [(0, .ref (g k0)), (1, .ref (g k1)), (2, .int x2), (3, .int x3)]) (hF : fX7_purses_b4 N r4 k0 k1 x2 x3 S = some o) : W p l e (rmd 0) s m args below meth c H locs 0 0 (gE below args s D (xtys cI cB cZ cQ) (xcell g cI cB cZ cQ) xord g (some (.int o.1)) o.2) (F0 m 4 ls []) := by
  unfold fX7_purses_b4 at hF
  refine lv_iload_n C.1.1 C.1.2.1 dX7_purses_4 rfl (lv_at hl 3 rfl) ?_
  refine lv_aload_n C.1.1 C.1.2.1 dX7_purses_5 rfl (lv_at hl 1 rfl) ?_
  refine xg_X7_31 C O X (k := k1) hk_k1 dX7_purses_6 ?_
  refine lv_icmp_ge (tgt := 27) C.1.1 C.1.2.1 dX7_purses_9 (by decide) (fun h_z => ?_) (fun h_z => ?_)
  · rw [if_pos h_z] at hF
    exact bX7_purses_27 C O X (lv_sub hl [2] rfl) hF
  · rw [if_neg h_z] at hF
    exact bX7_purses_12 C O K4 (hk_k0 : xk k0 = 7) (hk_k1 : xk k1 = 9) X (lv_sub hl [0, 1, 2, 3] rfl) hF
noncomputable def fX7_purses_h4 (N : Nat) : Nat → Nat → Nat → Int32 → Int32 → gS → Option (Int32 × gS)
  | 0, _, _, _, _, _ => none
  | n + 1, k0, k1, x2, x3, S => fX7_purses_b4 N (fX7_purses_h4 N n) k0 k1 x2 x3 S
theorem hX7_purses_4 {N : Nat} {o : Int32 × gS} (C : gC p s m args meth c cX7_purses 4 RX7 ((some .int)) D (xtys cI cB cZ cQ) xord g Am) (O : xO g cI cB cZ cQ Am) : ∀ (n : Nat) (k0 : Nat) (k1 : Nat) (x2 : Int32) (x3 : Int32) (hk_k0 : xk k0 = 7) (hk_k1 : xk k1 = 9) (S : gS) (H : Heap) (locs : List Loc) (ls : Array Slot), gX D (xcell g cI cB cZ cQ) xord g S s H locs → lv_has ls 4 [(0, .ref (g k0)), (1, .ref (g k1)), (2, .int x2), (3, .int x3)] → fX7_purses_h4 N n k0 k1 x2 x3 S = some o → W p l e (rmd 0) s m args below meth c H locs 0 0 (gE below args s D (xtys cI cB cZ cQ) (xcell g cI cB cZ cQ) xord g (some (.int o.1)) o.2) (F0 m 4 ls []) := by
  intro n
  induction n with
  | zero =>
    intro k0 k1 x2 x3 hk_k0 hk_k1 S H locs ls X hl hF
    exact absurd (show (none : Option (Int32 × gS)) = some o from hF) (by simp)
  | succ n ih =>
    intro k0 k1 x2 x3 hk_k0 hk_k1 S H locs ls X hl hF
    have hF : fX7_purses_b4 N (fX7_purses_h4 N n) k0 k1 x2 x3 S = some o := hF
    exact bX7_purses_4 C O ih hk_k0 hk_k1 X hl hF
noncomputable def fX7_purses_b0 (N : Nat) (k0 : Nat) (k1 : Nat) (S : gS) : Option (Int32 × gS) := fX7_purses_h4 N N k0 k1 0 0 S
theorem bX7_purses_0 {N : Nat} {k0 : Nat} {k1 : Nat} {S : gS} {H : Heap} {locs : List Loc} {ls : Array Slot} {o : Int32 × gS} (C : gC p s m args meth c cX7_purses 4 RX7 ((some .int)) D (xtys cI cB cZ cQ) xord g Am) (O : xO g cI cB cZ cQ Am) (hk_k0 : xk k0 = 7) (hk_k1 : xk k1 = 9) (X : gX D (xcell g cI cB cZ cQ) xord g S s H locs) (hl : lv_has ls 4 [(0, .ref (g k0)), (1, .ref (g k1))]) (hF : fX7_purses_b0 N k0 k1 S = some o) : W p l e (rmd 0) s m args below meth c H locs 0 0 (gE below args s D (xtys cI cB cZ cQ) (xcell g cI cB cZ cQ) xord g (some (.int o.1)) o.2) (F0 m 0 ls []) := by
  unfold fX7_purses_b0 at hF
  refine lv_iconst (v := 0) C.1.1 C.1.2.1 dX7_purses_0 (by decide) ?_
  refine lv_istore_n (lv' := [(2, .int 0), (0, .ref (g k0)), (1, .ref (g k1))]) C.1.1 C.1.2.1 dX7_purses_1 rfl hl (by decide) rfl (fun ls hl => ?_)
  refine lv_iconst (v := 0) C.1.1 C.1.2.1 dX7_purses_2 (by decide) ?_
  refine lv_istore_n (lv' := [(3, .int 0), (2, .int 0), (0, .ref (g k0)), (1, .ref (g k1))]) C.1.1 C.1.2.1 dX7_purses_3 rfl hl (by decide) rfl (fun ls hl => ?_)
  exact hX7_purses_4 C O N _ _ _ _ (hk_k0 : xk k0 = 7) (hk_k1 : xk k1 = 9) _ _ _ _ X (lv_sub hl [2, 3, 1, 0] rfl) hF
noncomputable def fX7_purses (N : Nat) (k0 : Nat) (k1 : Nat) (S : gS) : Option (Int32 × gS) := fX7_purses_b0 N k0 k1 S
theorem kX7_purses {l : Launch} {D : va_G} {g : Nat → Nat} {cI cB cZ cQ : ClassId} {Am : (Nat → Prop) → State → Heap → Prop} (O : xO g cI cB cZ cQ Am) (P : gAm Am) (N : Nat) (k0 : Nat) (k1 : Nat) (hk_k0 : xk k0 = 7) (hk_k1 : xk k1 = 9) (S : gS) (o : Int32 × gS) (hF : fX7_purses N k0 k1 S = some o) : gM l yX7_purses cX7_purses 4 ((some .int)) 0 D (xtys cI cB cZ cQ) (xcell g cI cB cZ cQ) xord g Am [.ref (g k0), .ref (g k1)] S (some (.int o.1)) o.2 :=
  gM_of O.1 P (by decide) (Nat.le_of_ble_eq_true rfl) (fun p e s m args below meth c ls C X hl => bX7_purses_0 C O hk_k0 hk_k1 X (lv_sub hl [0, 1] rfl) hF)
-- X7.sins
noncomputable def fX7_sins_b27 (N : Nat) (x2 : Int32) (S : gS) : Option (Int32 × gS) := some (x2, S)
theorem bX7_sins_27 {N : Nat} {x2 : Int32} {S : gS} {H : Heap} {locs : List Loc} {ls : Array Slot} {o : Int32 × gS} (C : gC p s m args meth c cX7_sins 4 RX7 ((some .int)) D (xtys cI cB cZ cQ) xord g Am) (O : xO g cI cB cZ cQ Am) (X : gX D (xcell g cI cB cZ cQ) xord g S s H locs) (hl : lv_has ls 4 [(2, .int x2)]) (hF : fX7_sins_b27 N x2 S = some o) : W p l e (rmd 0) s m args below meth c H locs 0 0 (gE below args s D (xtys cI cB cZ cQ) (xcell g cI cB cZ cQ) xord g (some (.int o.1)) o.2) (F0 m 27 ls []) := by
  unfold fX7_sins_b27 at hF
  refine lv_iload_n C.1.1 C.1.2.1 dX7_sins_27 rfl (lv_at hl 0 rfl) ?_
  cases hF
  exact g_iret C X dX7_sins_28
noncomputable def fX7_sins_b12 (N : Nat) (r4 : Nat → Nat → Int32 → Int32 → gS → Option (Int32 × gS)) (k0 : Nat) (k1 : Nat) (x2 : Int32) (x3 : Int32) (S : gS) : Option (Int32 × gS) := chk (inb x3 6) (r4 k0 k1 ((x2 + (S (k0 + 1) (Int32.toNatClampNeg x3)) : Int32)) ((x3 + 1 : Int32)) S)
theorem bX7_sins_12 {N : Nat} {r4 : Nat → Nat → Int32 → Int32 → gS → Option (Int32 × gS)} {k0 : Nat} {k1 : Nat} {x2 : Int32} {x3 : Int32} {S : gS} {H : Heap} {locs : List Loc} {ls : Array Slot} {o : Int32 × gS} (C : gC p s m args meth c cX7_sins 4 RX7 ((some .int)) D (xtys cI cB cZ cQ) xord g Am) (O : xO g cI cB cZ cQ Am) (K4 : ∀ (k0 : Nat) (k1 : Nat) (x2 : Int32) (x3 : Int32) (hk_k0 : xk k0 = 7) (hk_k1 : xk k1 = 9) (S : gS) (H : Heap) (locs : List Loc) (ls : Array Slot), gX D (xcell g cI cB cZ cQ) xord g S s H locs → lv_has ls 4 [(0, .ref (g k0)), (1, .ref (g k1)), (2, .int x2), (3, .int x3)] → r4 k0 k1 x2 x3 S = some o → W p l e (rmd 0) s m args below meth c H locs 0 0 (gE below args s D (xtys cI cB cZ cQ) (xcell g cI cB cZ cQ) xord g (some (.int o.1)) o.2) (F0 m 4 ls [])) (hk_k0 : xk k0 = 7) (hk_k1 : xk k1 = 9) (X : gX D (xcell g cI cB cZ cQ) xord g S s H locs) (hl : lv_has ls 4 [(0, .ref (g k0)), (1, .ref (g k1)), (2, .int x2), (3, .int x3)]) (hF : fX7_sins_b12 N r4 k0 k1 x2 x3 S = some o) : W p l e (rmd 0) s m args below meth c H locs 0 0 (gE below args s D (xtys cI cB cZ cQ) (xcell g cI cB cZ cQ) xord g (some (.int o.1)) o.2) (F0 m 12 ls []) := by
  unfold fX7_sins_b12 at hF
  refine lv_iload_n C.1.1 C.1.2.1 dX7_sins_12 rfl (lv_at hl 2 rfl) ?_
  refine lv_aload_n C.1.1 C.1.2.1 dX7_sins_13 rfl (lv_at hl 0 rfl) ?_
  refine xg_X7_18 C O X (k := k0) hk_k0 (j := k0 + 1) rfl dX7_sins_14 ?_
  refine lv_iload_n C.1.1 C.1.2.1 dX7_sins_17 rfl (lv_at hl 3 rfl) ?_
  obtain ⟨h_1, hF⟩ := chk_some hF
  refine x_rI C X (k := k0 + 1) (xs_7_2 hk_k0).1 (n := 6) (xs_7_2 hk_k0).2  (inb_vp h_1) rfl dX7_sins_18 ?_
  refine lv_iadd C.1.1 C.1.2.1 dX7_sins_19 ?_
  refine lv_istore_n (lv' := [(2, .int ((x2 + (S (k0 + 1) (Int32.toNatClampNeg x3)) : Int32))), (0, .ref (g k0)), (1, .ref (g k1)), (3, .int x3)]) C.1.1 C.1.2.1 dX7_sins_20 rfl hl (by decide) rfl (fun ls hl => ?_)
  refine lv_iinc (v := (x3 + 1 : Int32)) (lv' := [(3, .int ((x3 + 1 : Int32))), (2, .int ((x2 + (S (k0 + 1) (Int32.toNatClampNeg x3)) : Int32))), (0, .ref (g k0)), (1, .ref (g k1))]) C.1.1 C.1.2.1 dX7_sins_21 hl (k := 3) rfl rfl (by decide) rfl (fun ls hl => ?_)
  refine lv_goto (tgt := 4) C.1.1 C.1.2.1 dX7_sins_24 (by decide) ?_
  exact K4 _ _ _ _ (hk_k0 : xk k0 = 7) (hk_k1 : xk k1 = 9) _ _ _ _ X (lv_sub hl [2, 3, 1, 0] rfl) hF
noncomputable def fX7_sins_b4 (N : Nat) (r4 : Nat → Nat → Int32 → Int32 → gS → Option (Int32 × gS)) (k0 : Nat) (k1 : Nat) (x2 : Int32) (x3 : Int32) (S : gS) : Option (Int32 × gS) := if (S k1 5) ≤ x3 then fX7_sins_b27 N x2 S else fX7_sins_b12 N r4 k0 k1 x2 x3 S
theorem bX7_sins_4 {N : Nat} {r4 : Nat → Nat → Int32 → Int32 → gS → Option (Int32 × gS)} {k0 : Nat} {k1 : Nat} {x2 : Int32} {x3 : Int32} {S : gS} {H : Heap} {locs : List Loc} {ls : Array Slot} {o : Int32 × gS} (C : gC p s m args meth c cX7_sins 4 RX7 ((some .int)) D (xtys cI cB cZ cQ) xord g Am) (O : xO g cI cB cZ cQ Am) (K4 : ∀ (k0 : Nat) (k1 : Nat) (x2 : Int32) (x3 : Int32) (hk_k0 : xk k0 = 7) (hk_k1 : xk k1 = 9) (S : gS) (H : Heap) (locs : List Loc) (ls : Array Slot), gX D (xcell g cI cB cZ cQ) xord g S s H locs → lv_has ls 4 [(0, .ref (g k0)), (1, .ref (g k1)), (2, .int x2), (3, .int x3)] → r4 k0 k1 x2 x3 S = some o → W p l e (rmd 0) s m args below meth c H locs 0 0 (gE below args s D (xtys cI cB cZ cQ) (xcell g cI cB cZ cQ) xord g (some (.int o.1)) o.2) (F0 m 4 ls [])) (hk_k0 : xk k0 = 7) (hk_k1 : xk k1 = 9) (X : gX D (xcell g cI cB cZ cQ) xord g S s H locs) (hl : lv_has ls 4 [(0, .ref (g k0)), (1, .ref (g k1)), (2, .int x2), (3, .int x3)]) (hF : fX7_sins_b4 N r4 k0 k1 x2 x3 S = some o) : W p l e (rmd 0) s m args below meth c H locs 0 0 (gE below args s D (xtys cI cB cZ cQ) (xcell g cI cB cZ cQ) xord g (some (.int o.1)) o.2) (F0 m 4 ls []) := by
  unfold fX7_sins_b4 at hF
  refine lv_iload_n C.1.1 C.1.2.1 dX7_sins_4 rfl (lv_at hl 3 rfl) ?_
  refine lv_aload_n C.1.1 C.1.2.1 dX7_sins_5 rfl (lv_at hl 1 rfl) ?_
  refine xg_X7_31 C O X (k := k1) hk_k1 dX7_sins_6 ?_
  refine lv_icmp_ge (tgt := 27) C.1.1 C.1.2.1 dX7_sins_9 (by decide) (fun h_z => ?_) (fun h_z => ?_)
  · rw [if_pos h_z] at hF
    exact bX7_sins_27 C O X (lv_sub hl [2] rfl) hF
  · rw [if_neg h_z] at hF
    exact bX7_sins_12 C O K4 (hk_k0 : xk k0 = 7) (hk_k1 : xk k1 = 9) X (lv_sub hl [0, 1, 2, 3] rfl) hF
noncomputable def fX7_sins_h4 (N : Nat) : Nat → Nat → Nat → Int32 → Int32 → gS → Option (Int32 × gS)
  | 0, _, _, _, _, _ => none
  | n + 1, k0, k1, x2, x3, S => fX7_sins_b4 N (fX7_sins_h4 N n) k0 k1 x2 x3 S
theorem hX7_sins_4 {N : Nat} {o : Int32 × gS} (C : gC p s m args meth c cX7_sins 4 RX7 ((some .int)) D (xtys cI cB cZ cQ) xord g Am) (O : xO g cI cB cZ cQ Am) : ∀ (n : Nat) (k0 : Nat) (k1 : Nat) (x2 : Int32) (x3 : Int32) (hk_k0 : xk k0 = 7) (hk_k1 : xk k1 = 9) (S : gS) (H : Heap) (locs : List Loc) (ls : Array Slot), gX D (xcell g cI cB cZ cQ) xord g S s H locs → lv_has ls 4 [(0, .ref (g k0)), (1, .ref (g k1)), (2, .int x2), (3, .int x3)] → fX7_sins_h4 N n k0 k1 x2 x3 S = some o → W p l e (rmd 0) s m args below meth c H locs 0 0 (gE below args s D (xtys cI cB cZ cQ) (xcell g cI cB cZ cQ) xord g (some (.int o.1)) o.2) (F0 m 4 ls []) := by
  intro n
  induction n with
  | zero =>
    intro k0 k1 x2 x3 hk_k0 hk_k1 S H locs ls X hl hF
    exact absurd (show (none : Option (Int32 × gS)) = some o from hF) (by simp)
  | succ n ih =>
    intro k0 k1 x2 x3 hk_k0 hk_k1 S H locs ls X hl hF
    have hF : fX7_sins_b4 N (fX7_sins_h4 N n) k0 k1 x2 x3 S = some o := hF
    exact bX7_sins_4 C O ih hk_k0 hk_k1 X hl hF
noncomputable def fX7_sins_b0 (N : Nat) (k0 : Nat) (k1 : Nat) (S : gS) : Option (Int32 × gS) := fX7_sins_h4 N N k0 k1 0 0 S
theorem bX7_sins_0 {N : Nat} {k0 : Nat} {k1 : Nat} {S : gS} {H : Heap} {locs : List Loc} {ls : Array Slot} {o : Int32 × gS} (C : gC p s m args meth c cX7_sins 4 RX7 ((some .int)) D (xtys cI cB cZ cQ) xord g Am) (O : xO g cI cB cZ cQ Am) (hk_k0 : xk k0 = 7) (hk_k1 : xk k1 = 9) (X : gX D (xcell g cI cB cZ cQ) xord g S s H locs) (hl : lv_has ls 4 [(0, .ref (g k0)), (1, .ref (g k1))]) (hF : fX7_sins_b0 N k0 k1 S = some o) : W p l e (rmd 0) s m args below meth c H locs 0 0 (gE below args s D (xtys cI cB cZ cQ) (xcell g cI cB cZ cQ) xord g (some (.int o.1)) o.2) (F0 m 0 ls []) := by
  unfold fX7_sins_b0 at hF
  refine lv_iconst (v := 0) C.1.1 C.1.2.1 dX7_sins_0 (by decide) ?_
  refine lv_istore_n (lv' := [(2, .int 0), (0, .ref (g k0)), (1, .ref (g k1))]) C.1.1 C.1.2.1 dX7_sins_1 rfl hl (by decide) rfl (fun ls hl => ?_)
  refine lv_iconst (v := 0) C.1.1 C.1.2.1 dX7_sins_2 (by decide) ?_
  refine lv_istore_n (lv' := [(3, .int 0), (2, .int 0), (0, .ref (g k0)), (1, .ref (g k1))]) C.1.1 C.1.2.1 dX7_sins_3 rfl hl (by decide) rfl (fun ls hl => ?_)
  exact hX7_sins_4 C O N _ _ _ _ (hk_k0 : xk k0 = 7) (hk_k1 : xk k1 = 9) _ _ _ _ X (lv_sub hl [2, 3, 1, 0] rfl) hF
noncomputable def fX7_sins (N : Nat) (k0 : Nat) (k1 : Nat) (S : gS) : Option (Int32 × gS) := fX7_sins_b0 N k0 k1 S
theorem kX7_sins {l : Launch} {D : va_G} {g : Nat → Nat} {cI cB cZ cQ : ClassId} {Am : (Nat → Prop) → State → Heap → Prop} (O : xO g cI cB cZ cQ Am) (P : gAm Am) (N : Nat) (k0 : Nat) (k1 : Nat) (hk_k0 : xk k0 = 7) (hk_k1 : xk k1 = 9) (S : gS) (o : Int32 × gS) (hF : fX7_sins N k0 k1 S = some o) : gM l yX7_sins cX7_sins 4 ((some .int)) 0 D (xtys cI cB cZ cQ) (xcell g cI cB cZ cQ) xord g Am [.ref (g k0), .ref (g k1)] S (some (.int o.1)) o.2 :=
  gM_of O.1 P (by decide) (Nat.le_of_ble_eq_true rfl) (fun p e s m args below meth c ls C X hl => bX7_sins_0 C O hk_k0 hk_k1 X (lv_sub hl [0, 1] rfl) hF)
-- X8.add
noncomputable def fX8_add_b48 (N : Nat) (S : gS) : Option (Int32 × gS) := some (0, S)
theorem bX8_add_48 {N : Nat} {S : gS} {H : Heap} {locs : List Loc} {ls : Array Slot} {o : Int32 × gS} (C : gC p s m args meth c cX8_add 3 RX8 none D (xtys cI cB cZ cQ) xord g Am) (O : xO g cI cB cZ cQ Am) (X : gX D (xcell g cI cB cZ cQ) xord g S s H locs) (hl : lv_has ls 3 []) (hF : fX8_add_b48 N S = some o) : W p l e (rmd 0) s m args below meth c H locs 0 0 (gE below args s D (xtys cI cB cZ cQ) (xcell g cI cB cZ cQ) xord g none o.2) (F0 m 48 ls []) := by
  unfold fX8_add_b48 at hF
  cases hF
  exact g_vret C X dX8_add_48
noncomputable def fX8_add_b42 (N : Nat) (r3 : Int32 → Int32 → gS → Option (Int32 × gS)) (x1 : Int32) (x2 : Int32) (S : gS) : Option (Int32 × gS) := r3 x1 ((x2 + (-8) : Int32)) S
theorem bX8_add_42 {N : Nat} {r3 : Int32 → Int32 → gS → Option (Int32 × gS)} {x1 : Int32} {x2 : Int32} {S : gS} {H : Heap} {locs : List Loc} {ls : Array Slot} {o : Int32 × gS} (C : gC p s m args meth c cX8_add 3 RX8 none D (xtys cI cB cZ cQ) xord g Am) (O : xO g cI cB cZ cQ Am) (K3 : ∀ (x1 : Int32) (x2 : Int32) (S : gS) (H : Heap) (locs : List Loc) (ls : Array Slot), gX D (xcell g cI cB cZ cQ) xord g S s H locs → lv_has ls 3 [(0, .ref (g 2)), (1, .int x1), (2, .int x2)] → r3 x1 x2 S = some o → W p l e (rmd 0) s m args below meth c H locs 0 0 (gE below args s D (xtys cI cB cZ cQ) (xcell g cI cB cZ cQ) xord g none o.2) (F0 m 3 ls [])) (X : gX D (xcell g cI cB cZ cQ) xord g S s H locs) (hl : lv_has ls 3 [(0, .ref (g 2)), (1, .int x1), (2, .int x2)]) (hF : fX8_add_b42 N r3 x1 x2 S = some o) : W p l e (rmd 0) s m args below meth c H locs 0 0 (gE below args s D (xtys cI cB cZ cQ) (xcell g cI cB cZ cQ) xord g none o.2) (F0 m 42 ls []) := by
  unfold fX8_add_b42 at hF
  refine lv_iinc (v := (x2 + (-8) : Int32)) (lv' := [(2, .int ((x2 + (-8) : Int32))), (0, .ref (g 2)), (1, .int x1)]) C.1.1 C.1.2.1 dX8_add_42 hl (k := 2) rfl rfl (by decide) rfl (fun ls hl => ?_)
  refine lv_goto (tgt := 3) C.1.1 C.1.2.1 dX8_add_45 (by decide) ?_
  exact K3 _ _ _ _ _ _ X (lv_sub hl [1, 2, 0] rfl) hF
noncomputable def fX8_add_b19 (N : Nat) (r3 : Int32 → Int32 → gS → Option (Int32 × gS)) (x1 : Int32) (x2 : Int32) (S : gS) : Option (Int32 × gS) := chk (inb (S 2 1) 700) (lt (sU S 3 (Int32.toNatClampNeg (S 2 1)) (vp_nar .byte ((Int32.toInt8 ((x1 >>> (x2 &&& 31) : Int32))).toInt32))) fun S1 => (lt (sU S1 2 1 (((S1 2 1) + 1 : Int32))) fun S2 => (fX8_add_b42 N r3 x1 x2 S2)))
theorem bX8_add_19 {N : Nat} {r3 : Int32 → Int32 → gS → Option (Int32 × gS)} {x1 : Int32} {x2 : Int32} {S : gS} {H : Heap} {locs : List Loc} {ls : Array Slot} {o : Int32 × gS} (C : gC p s m args meth c cX8_add 3 RX8 none D (xtys cI cB cZ cQ) xord g Am) (O : xO g cI cB cZ cQ Am) (K3 : ∀ (x1 : Int32) (x2 : Int32) (S : gS) (H : Heap) (locs : List Loc) (ls : Array Slot), gX D (xcell g cI cB cZ cQ) xord g S s H locs → lv_has ls 3 [(0, .ref (g 2)), (1, .int x1), (2, .int x2)] → r3 x1 x2 S = some o → W p l e (rmd 0) s m args below meth c H locs 0 0 (gE below args s D (xtys cI cB cZ cQ) (xcell g cI cB cZ cQ) xord g none o.2) (F0 m 3 ls [])) (X : gX D (xcell g cI cB cZ cQ) xord g S s H locs) (hl : lv_has ls 3 [(0, .ref (g 2)), (1, .int x1), (2, .int x2)]) (hF : fX8_add_b19 N r3 x1 x2 S = some o) : W p l e (rmd 0) s m args below meth c H locs 0 0 (gE below args s D (xtys cI cB cZ cQ) (xcell g cI cB cZ cQ) xord g none o.2) (F0 m 19 ls []) := by
  unfold fX8_add_b19 at hF
  refine lv_aload_n C.1.1 C.1.2.1 dX8_add_19 rfl (lv_at hl 0 rfl) ?_
  refine xg_X8_9 C O X (k := 2) rfl (j := 3) rfl dX8_add_20 ?_
  refine lv_aload_n C.1.1 C.1.2.1 dX8_add_23 rfl (lv_at hl 0 rfl) ?_
  refine xg_X8_15 C O X (k := 2) rfl dX8_add_24 ?_
  refine lv_iload_n C.1.1 C.1.2.1 dX8_add_27 rfl (lv_at hl 1 rfl) ?_
  refine lv_iload_n C.1.1 C.1.2.1 dX8_add_28 rfl (lv_at hl 2 rfl) ?_
  refine lv_ishr C.1.1 C.1.2.1 dX8_add_29 ?_
  refine lv_i2b (v := (Int32.toInt8 ((x1 >>> (x2 &&& 31) : Int32))).toInt32) C.1.1 C.1.2.1 dX8_add_30 rfl ?_
  obtain ⟨h_1, hF⟩ := chk_some hF
  obtain ⟨S1, eS1, hF⟩ := lt_some hF
  refine x_wB C O X (k := 3) rfl (n := 700) rfl  (inb_vp h_1) rfl eS1 dX8_add_31 (fun H locs X => ?_)
  refine lv_aload_n C.1.1 C.1.2.1 dX8_add_32 rfl (lv_at hl 0 rfl) ?_
  refine lv_dup C.1.1 C.1.2.1 dX8_add_33 rfl ?_
  refine xg_X8_15 C O X (k := 2) rfl dX8_add_34 ?_
  refine lv_iconst (v := 1) C.1.1 C.1.2.1 dX8_add_37 (by decide) ?_
  refine lv_iadd C.1.1 C.1.2.1 dX8_add_38 ?_
  obtain ⟨S2, eS2, hF⟩ := lt_some hF
  refine xp_X8_15 C O X (k := 2) rfl eS2 dX8_add_39 (fun H locs X => ?_)
  exact bX8_add_42 C O K3 X (lv_sub hl [0, 1, 2] rfl) hF
noncomputable def fX8_add_b7 (N : Nat) (r3 : Int32 → Int32 → gS → Option (Int32 × gS)) (x1 : Int32) (x2 : Int32) (S : gS) : Option (Int32 × gS) := if 700 ≤ (S 2 1) then fX8_add_b42 N r3 x1 x2 S else fX8_add_b19 N r3 x1 x2 S
theorem bX8_add_7 {N : Nat} {r3 : Int32 → Int32 → gS → Option (Int32 × gS)} {x1 : Int32} {x2 : Int32} {S : gS} {H : Heap} {locs : List Loc} {ls : Array Slot} {o : Int32 × gS} (C : gC p s m args meth c cX8_add 3 RX8 none D (xtys cI cB cZ cQ) xord g Am) (O : xO g cI cB cZ cQ Am) (K3 : ∀ (x1 : Int32) (x2 : Int32) (S : gS) (H : Heap) (locs : List Loc) (ls : Array Slot), gX D (xcell g cI cB cZ cQ) xord g S s H locs → lv_has ls 3 [(0, .ref (g 2)), (1, .int x1), (2, .int x2)] → r3 x1 x2 S = some o → W p l e (rmd 0) s m args below meth c H locs 0 0 (gE below args s D (xtys cI cB cZ cQ) (xcell g cI cB cZ cQ) xord g none o.2) (F0 m 3 ls [])) (X : gX D (xcell g cI cB cZ cQ) xord g S s H locs) (hl : lv_has ls 3 [(0, .ref (g 2)), (1, .int x1), (2, .int x2)]) (hF : fX8_add_b7 N r3 x1 x2 S = some o) : W p l e (rmd 0) s m args below meth c H locs 0 0 (gE below args s D (xtys cI cB cZ cQ) (xcell g cI cB cZ cQ) xord g none o.2) (F0 m 7 ls []) := by
  unfold fX8_add_b7 at hF
  refine lv_aload_n C.1.1 C.1.2.1 dX8_add_7 rfl (lv_at hl 0 rfl) ?_
  refine xg_X8_15 C O X (k := 2) rfl dX8_add_8 ?_
  refine lv_aload_n C.1.1 C.1.2.1 dX8_add_11 rfl (lv_at hl 0 rfl) ?_
  refine xg_X8_9 C O X (k := 2) rfl (j := 3) rfl dX8_add_12 ?_
  refine x_lB C X (k := 3) rfl (n := 700) rfl (x := 700) (by decide) dX8_add_15 ?_
  refine lv_icmp_ge (tgt := 42) C.1.1 C.1.2.1 dX8_add_16 (by decide) (fun h_z => ?_) (fun h_z => ?_)
  · rw [if_pos h_z] at hF
    exact bX8_add_42 C O K3 X (lv_sub hl [0, 1, 2] rfl) hF
  · rw [if_neg h_z] at hF
    exact bX8_add_19 C O K3 X (lv_sub hl [0, 1, 2] rfl) hF
noncomputable def fX8_add_b3 (N : Nat) (r3 : Int32 → Int32 → gS → Option (Int32 × gS)) (x1 : Int32) (x2 : Int32) (S : gS) : Option (Int32 × gS) := if x2 < 0 then fX8_add_b48 N S else fX8_add_b7 N r3 x1 x2 S
theorem bX8_add_3 {N : Nat} {r3 : Int32 → Int32 → gS → Option (Int32 × gS)} {x1 : Int32} {x2 : Int32} {S : gS} {H : Heap} {locs : List Loc} {ls : Array Slot} {o : Int32 × gS} (C : gC p s m args meth c cX8_add 3 RX8 none D (xtys cI cB cZ cQ) xord g Am) (O : xO g cI cB cZ cQ Am) (K3 : ∀ (x1 : Int32) (x2 : Int32) (S : gS) (H : Heap) (locs : List Loc) (ls : Array Slot), gX D (xcell g cI cB cZ cQ) xord g S s H locs → lv_has ls 3 [(0, .ref (g 2)), (1, .int x1), (2, .int x2)] → r3 x1 x2 S = some o → W p l e (rmd 0) s m args below meth c H locs 0 0 (gE below args s D (xtys cI cB cZ cQ) (xcell g cI cB cZ cQ) xord g none o.2) (F0 m 3 ls [])) (X : gX D (xcell g cI cB cZ cQ) xord g S s H locs) (hl : lv_has ls 3 [(0, .ref (g 2)), (1, .int x1), (2, .int x2)]) (hF : fX8_add_b3 N r3 x1 x2 S = some o) : W p l e (rmd 0) s m args below meth c H locs 0 0 (gE below args s D (xtys cI cB cZ cQ) (xcell g cI cB cZ cQ) xord g none o.2) (F0 m 3 ls []) := by
  unfold fX8_add_b3 at hF
  refine lv_iload_n C.1.1 C.1.2.1 dX8_add_3 rfl (lv_at hl 2 rfl) ?_
  refine lv_if_lt (tgt := 48) C.1.1 C.1.2.1 dX8_add_4 (by decide) (fun h_z => ?_) (fun h_z => ?_)
  · rw [if_pos h_z] at hF
    exact bX8_add_48 C O X (lv_sub hl [] rfl) hF
  · rw [if_neg h_z] at hF
    exact bX8_add_7 C O K3 X (lv_sub hl [0, 1, 2] rfl) hF
noncomputable def fX8_add_h3 (N : Nat) : Nat → Int32 → Int32 → gS → Option (Int32 × gS)
  | 0, _, _, _ => none
  | n + 1, x1, x2, S => fX8_add_b3 N (fX8_add_h3 N n) x1 x2 S
theorem hX8_add_3 {N : Nat} {o : Int32 × gS} (C : gC p s m args meth c cX8_add 3 RX8 none D (xtys cI cB cZ cQ) xord g Am) (O : xO g cI cB cZ cQ Am) : ∀ (n : Nat) (x1 : Int32) (x2 : Int32) (S : gS) (H : Heap) (locs : List Loc) (ls : Array Slot), gX D (xcell g cI cB cZ cQ) xord g S s H locs → lv_has ls 3 [(0, .ref (g 2)), (1, .int x1), (2, .int x2)] → fX8_add_h3 N n x1 x2 S = some o → W p l e (rmd 0) s m args below meth c H locs 0 0 (gE below args s D (xtys cI cB cZ cQ) (xcell g cI cB cZ cQ) xord g none o.2) (F0 m 3 ls []) := by
  intro n
  induction n with
  | zero =>
    intro x1 x2 S H locs ls X hl hF
    exact absurd (show (none : Option (Int32 × gS)) = some o from hF) (by simp)
  | succ n ih =>
    intro x1 x2 S H locs ls X hl hF
    have hF : fX8_add_b3 N (fX8_add_h3 N n) x1 x2 S = some o := hF
    exact bX8_add_3 C O ih X hl hF
noncomputable def fX8_add_b0 (N : Nat) (x1 : Int32) (S : gS) : Option (Int32 × gS) := fX8_add_h3 N N x1 24 S
theorem bX8_add_0 {N : Nat} {x1 : Int32} {S : gS} {H : Heap} {locs : List Loc} {ls : Array Slot} {o : Int32 × gS} (C : gC p s m args meth c cX8_add 3 RX8 none D (xtys cI cB cZ cQ) xord g Am) (O : xO g cI cB cZ cQ Am) (X : gX D (xcell g cI cB cZ cQ) xord g S s H locs) (hl : lv_has ls 3 [(0, .ref (g 2)), (1, .int x1)]) (hF : fX8_add_b0 N x1 S = some o) : W p l e (rmd 0) s m args below meth c H locs 0 0 (gE below args s D (xtys cI cB cZ cQ) (xcell g cI cB cZ cQ) xord g none o.2) (F0 m 0 ls []) := by
  unfold fX8_add_b0 at hF
  refine lv_bipush (v := 24) C.1.1 C.1.2.1 dX8_add_0 (by decide) ?_
  refine lv_istore_n (lv' := [(2, .int 24), (0, .ref (g 2)), (1, .int x1)]) C.1.1 C.1.2.1 dX8_add_2 rfl hl (by decide) rfl (fun ls hl => ?_)
  exact hX8_add_3 C O N _ _ _ _ _ _ X (lv_sub hl [1, 2, 0] rfl) hF
noncomputable def fX8_add (N : Nat) (x1 : Int32) (S : gS) : Option (Int32 × gS) := fX8_add_b0 N x1 S
theorem kX8_add {l : Launch} {D : va_G} {g : Nat → Nat} {cI cB cZ cQ : ClassId} {Am : (Nat → Prop) → State → Heap → Prop} (O : xO g cI cB cZ cQ Am) (P : gAm Am) (N : Nat) (x1 : Int32) (S : gS) (o : Int32 × gS) (hF : fX8_add N x1 S = some o) : gM l yX8_add cX8_add 3 none 0 D (xtys cI cB cZ cQ) (xcell g cI cB cZ cQ) xord g Am [.ref (g 2), .int x1] S none o.2 :=
  gM_of O.1 P (by decide) (Nat.le_of_ble_eq_true rfl) (fun p e s m args below meth c ls C X hl => bX8_add_0 C O X (lv_sub hl [0, 1] rfl) hF)
-- X8.at
noncomputable def fX8_at_b27 (N : Nat) (t0 : Int32) (S : gS) : Option (Int32 × gS) := some (t0, S)
theorem bX8_at_27 {N : Nat} {t0 : Int32} {S : gS} {H : Heap} {locs : List Loc} {ls : Array Slot} {o : Int32 × gS} (C : gC p s m args meth c cX8_at 2 RX8 ((some .int)) D (xtys cI cB cZ cQ) xord g Am) (O : xO g cI cB cZ cQ Am) (X : gX D (xcell g cI cB cZ cQ) xord g S s H locs) (hl : lv_has ls 2 []) (hF : fX8_at_b27 N t0 S = some o) : W p l e (rmd 0) s m args below meth c H locs 0 0 (gE below args s D (xtys cI cB cZ cQ) (xcell g cI cB cZ cQ) xord g (some (.int o.1)) o.2) (F0 m 27 ls [.int t0]) := by
  unfold fX8_at_b27 at hF
  cases hF
  exact g_iret C X dX8_at_27
noncomputable def fX8_at_b26 (N : Nat) (S : gS) : Option (Int32 × gS) := fX8_at_b27 N 0 S
theorem bX8_at_26 {N : Nat} {S : gS} {H : Heap} {locs : List Loc} {ls : Array Slot} {o : Int32 × gS} (C : gC p s m args meth c cX8_at 2 RX8 ((some .int)) D (xtys cI cB cZ cQ) xord g Am) (O : xO g cI cB cZ cQ Am) (X : gX D (xcell g cI cB cZ cQ) xord g S s H locs) (hl : lv_has ls 2 []) (hF : fX8_at_b26 N S = some o) : W p l e (rmd 0) s m args below meth c H locs 0 0 (gE below args s D (xtys cI cB cZ cQ) (xcell g cI cB cZ cQ) xord g (some (.int o.1)) o.2) (F0 m 26 ls []) := by
  unfold fX8_at_b26 at hF
  refine lv_iconst (v := 0) C.1.1 C.1.2.1 dX8_at_26 (by decide) ?_
  exact bX8_at_27 C O X (lv_sub hl [] rfl) hF
noncomputable def fX8_at_b13 (N : Nat) (x1 : Int32) (S : gS) : Option (Int32 × gS) := chk (inb x1 700) (fX8_at_b27 N (((S 3 (Int32.toNatClampNeg x1)) &&& 255 : Int32)) S)
theorem bX8_at_13 {N : Nat} {x1 : Int32} {S : gS} {H : Heap} {locs : List Loc} {ls : Array Slot} {o : Int32 × gS} (C : gC p s m args meth c cX8_at 2 RX8 ((some .int)) D (xtys cI cB cZ cQ) xord g Am) (O : xO g cI cB cZ cQ Am) (X : gX D (xcell g cI cB cZ cQ) xord g S s H locs) (hl : lv_has ls 2 [(0, .ref (g 2)), (1, .int x1)]) (hF : fX8_at_b13 N x1 S = some o) : W p l e (rmd 0) s m args below meth c H locs 0 0 (gE below args s D (xtys cI cB cZ cQ) (xcell g cI cB cZ cQ) xord g (some (.int o.1)) o.2) (F0 m 13 ls []) := by
  unfold fX8_at_b13 at hF
  refine lv_aload_n C.1.1 C.1.2.1 dX8_at_13 rfl (lv_at hl 0 rfl) ?_
  refine xg_X8_9 C O X (k := 2) rfl (j := 3) rfl dX8_at_14 ?_
  refine lv_iload_n C.1.1 C.1.2.1 dX8_at_17 rfl (lv_at hl 1 rfl) ?_
  obtain ⟨h_1, hF⟩ := chk_some hF
  refine x_rB C X (k := 3) rfl (n := 700) rfl  (inb_vp h_1) rfl dX8_at_18 ?_
  refine lv_sipush (v := 255) C.1.1 C.1.2.1 dX8_at_19 (by decide) ?_
  refine lv_iand C.1.1 C.1.2.1 dX8_at_22 ?_
  refine lv_goto (tgt := 27) C.1.1 C.1.2.1 dX8_at_23 (by decide) ?_
  exact bX8_at_27 C O X (lv_sub hl [] rfl) hF
noncomputable def fX8_at_b4 (N : Nat) (x1 : Int32) (S : gS) : Option (Int32 × gS) := if 700 ≤ x1 then fX8_at_b26 N S else fX8_at_b13 N x1 S
theorem bX8_at_4 {N : Nat} {x1 : Int32} {S : gS} {H : Heap} {locs : List Loc} {ls : Array Slot} {o : Int32 × gS} (C : gC p s m args meth c cX8_at 2 RX8 ((some .int)) D (xtys cI cB cZ cQ) xord g Am) (O : xO g cI cB cZ cQ Am) (X : gX D (xcell g cI cB cZ cQ) xord g S s H locs) (hl : lv_has ls 2 [(0, .ref (g 2)), (1, .int x1)]) (hF : fX8_at_b4 N x1 S = some o) : W p l e (rmd 0) s m args below meth c H locs 0 0 (gE below args s D (xtys cI cB cZ cQ) (xcell g cI cB cZ cQ) xord g (some (.int o.1)) o.2) (F0 m 4 ls []) := by
  unfold fX8_at_b4 at hF
  refine lv_iload_n C.1.1 C.1.2.1 dX8_at_4 rfl (lv_at hl 1 rfl) ?_
  refine lv_aload_n C.1.1 C.1.2.1 dX8_at_5 rfl (lv_at hl 0 rfl) ?_
  refine xg_X8_9 C O X (k := 2) rfl (j := 3) rfl dX8_at_6 ?_
  refine x_lB C X (k := 3) rfl (n := 700) rfl (x := 700) (by decide) dX8_at_9 ?_
  refine lv_icmp_ge (tgt := 26) C.1.1 C.1.2.1 dX8_at_10 (by decide) (fun h_z => ?_) (fun h_z => ?_)
  · rw [if_pos h_z] at hF
    exact bX8_at_26 C O X (lv_sub hl [] rfl) hF
  · rw [if_neg h_z] at hF
    exact bX8_at_13 C O X (lv_sub hl [0, 1] rfl) hF
noncomputable def fX8_at_b0 (N : Nat) (x1 : Int32) (S : gS) : Option (Int32 × gS) := if x1 < 0 then fX8_at_b26 N S else fX8_at_b4 N x1 S
theorem bX8_at_0 {N : Nat} {x1 : Int32} {S : gS} {H : Heap} {locs : List Loc} {ls : Array Slot} {o : Int32 × gS} (C : gC p s m args meth c cX8_at 2 RX8 ((some .int)) D (xtys cI cB cZ cQ) xord g Am) (O : xO g cI cB cZ cQ Am) (X : gX D (xcell g cI cB cZ cQ) xord g S s H locs) (hl : lv_has ls 2 [(0, .ref (g 2)), (1, .int x1)]) (hF : fX8_at_b0 N x1 S = some o) : W p l e (rmd 0) s m args below meth c H locs 0 0 (gE below args s D (xtys cI cB cZ cQ) (xcell g cI cB cZ cQ) xord g (some (.int o.1)) o.2) (F0 m 0 ls []) := by
  unfold fX8_at_b0 at hF
  refine lv_iload_n C.1.1 C.1.2.1 dX8_at_0 rfl (lv_at hl 1 rfl) ?_
  refine lv_if_lt (tgt := 26) C.1.1 C.1.2.1 dX8_at_1 (by decide) (fun h_z => ?_) (fun h_z => ?_)
  · rw [if_pos h_z] at hF
    exact bX8_at_26 C O X (lv_sub hl [] rfl) hF
  · rw [if_neg h_z] at hF
    exact bX8_at_4 C O X (lv_sub hl [0, 1] rfl) hF
noncomputable def fX8_at (N : Nat) (x1 : Int32) (S : gS) : Option (Int32 × gS) := fX8_at_b0 N x1 S
theorem kX8_at {l : Launch} {D : va_G} {g : Nat → Nat} {cI cB cZ cQ : ClassId} {Am : (Nat → Prop) → State → Heap → Prop} (O : xO g cI cB cZ cQ Am) (P : gAm Am) (N : Nat) (x1 : Int32) (S : gS) (o : Int32 × gS) (hF : fX8_at N x1 S = some o) : gM l yX8_at cX8_at 2 ((some .int)) 0 D (xtys cI cB cZ cQ) (xcell g cI cB cZ cQ) xord g Am [.ref (g 2), .int x1] S (some (.int o.1)) o.2 :=
  gM_of O.1 P (by decide) (Nat.le_of_ble_eq_true rfl) (fun p e s m args below meth c ls C X hl => bX8_at_0 C O X (lv_sub hl [0, 1] rfl) hF)
-- X9.clear
noncomputable def fX9_clear_b0 (N : Nat) (k0 : Nat) (S : gS) : Option (Int32 × gS) := lt (sU S k0 0 0) fun S1 => (lt (sU S1 k0 5 0) fun S2 => (lt (sU S2 k0 10 0) fun S3 => (lt (sU S3 k0 12 0) fun S4 => (bnd (fX4_clear N (k0 + 10) S4) fun q1 => (bnd (fX4_clear N (k0 + 13) q1.2) fun q2 => (some (0, q2.2)))))))
theorem bX9_clear_0 {N : Nat} {k0 : Nat} {S : gS} {H : Heap} {locs : List Loc} {ls : Array Slot} {o : Int32 × gS} (C : gC p s m args meth c cX9_clear 1 RX9 none D (xtys cI cB cZ cQ) xord g Am) (O : xO g cI cB cZ cQ Am) (hk_k0 : xk k0 = 9) (X : gX D (xcell g cI cB cZ cQ) xord g S s H locs) (hl : lv_has ls 1 [(0, .ref (g k0))]) (hF : fX9_clear_b0 N k0 S = some o) : W p l e (rmd 1) s m args below meth c H locs 0 0 (gE below args s D (xtys cI cB cZ cQ) (xcell g cI cB cZ cQ) xord g none o.2) (F0 m 0 ls []) := by
  unfold fX9_clear_b0 at hF
  refine lv_aload_n C.1.1 C.1.2.1 dX9_clear_0 rfl (lv_at hl 0 rfl) ?_
  refine lv_iconst (v := 0) C.1.1 C.1.2.1 dX9_clear_1 (by decide) ?_
  obtain ⟨S1, eS1, hF⟩ := lt_some hF
  refine xp_X9_9 C O X (k := k0) hk_k0 eS1 dX9_clear_2 (fun H locs X => ?_)
  refine lv_aload_n C.1.1 C.1.2.1 dX9_clear_5 rfl (lv_at hl 0 rfl) ?_
  refine lv_iconst (v := 0) C.1.1 C.1.2.1 dX9_clear_6 (by decide) ?_
  obtain ⟨S2, eS2, hF⟩ := lt_some hF
  refine xp_X9_29 C O X (k := k0) hk_k0 eS2 dX9_clear_7 (fun H locs X => ?_)
  refine lv_aload_n C.1.1 C.1.2.1 dX9_clear_10 rfl (lv_at hl 0 rfl) ?_
  refine lv_iconst (v := 0) C.1.1 C.1.2.1 dX9_clear_11 (by decide) ?_
  obtain ⟨S3, eS3, hF⟩ := lt_some hF
  refine xp_X9_44 C O X (k := k0) hk_k0 eS3 dX9_clear_12 (fun H locs X => ?_)
  refine lv_aload_n C.1.1 C.1.2.1 dX9_clear_15 rfl (lv_at hl 0 rfl) ?_
  refine lv_iconst (v := 0) C.1.1 C.1.2.1 dX9_clear_16 (by decide) ?_
  obtain ⟨S4, eS4, hF⟩ := lt_some hF
  refine xp_X9_50 C O X (k := k0) hk_k0 eS4 dX9_clear_17 (fun H locs X => ?_)
  refine lv_aload_n C.1.1 C.1.2.1 dX9_clear_20 rfl (lv_at hl 0 rfl) ?_
  refine xg_X9_58 C O X (k := k0) hk_k0 (j := k0 + 10) rfl dX9_clear_21 ?_
  obtain ⟨q1, hq1, hF⟩ := bnd_some hF
  refine x_callV C X (k := k0 + 10) xv_X9_65 (xs_9_13 hk_k0) rfl rfl (by decide) (kX4_clear O C.2.2.2.2.1 N (k0 + 10) ((xs_9_13 hk_k0) : xk (k0 + 10) = 4) S4 q1 hq1) (Nat.le_of_ble_eq_true rfl) (Nat.le_of_ble_eq_true rfl) (Nat.le_of_ble_eq_true rfl) (Nat.le_of_ble_eq_true rfl) rfl hl.1 rfl (Nat.le_of_ble_eq_true rfl) dX9_clear_24 (fun H locs X => ?_)
  refine lv_aload_n C.1.1 C.1.2.1 dX9_clear_27 rfl (lv_at hl 0 rfl) ?_
  refine xg_X9_62 C O X (k := k0) hk_k0 (j := k0 + 13) rfl dX9_clear_28 ?_
  obtain ⟨q2, hq2, hF⟩ := bnd_some hF
  refine x_callV C X (k := k0 + 13) xv_X9_65 (xs_9_14 hk_k0) rfl rfl (by decide) (kX4_clear O C.2.2.2.2.1 N (k0 + 13) ((xs_9_14 hk_k0) : xk (k0 + 13) = 4) q1.2 q2 hq2) (Nat.le_of_ble_eq_true rfl) (Nat.le_of_ble_eq_true rfl) (Nat.le_of_ble_eq_true rfl) (Nat.le_of_ble_eq_true rfl) rfl hl.1 rfl (Nat.le_of_ble_eq_true rfl) dX9_clear_31 (fun H locs X => ?_)
  cases hF
  exact g_vret C X dX9_clear_34
noncomputable def fX9_clear (N : Nat) (k0 : Nat) (S : gS) : Option (Int32 × gS) := fX9_clear_b0 N k0 S
theorem kX9_clear {l : Launch} {D : va_G} {g : Nat → Nat} {cI cB cZ cQ : ClassId} {Am : (Nat → Prop) → State → Heap → Prop} (O : xO g cI cB cZ cQ Am) (P : gAm Am) (N : Nat) (k0 : Nat) (hk_k0 : xk k0 = 9) (S : gS) (o : Int32 × gS) (hF : fX9_clear N k0 S = some o) : gM l yX9_clear cX9_clear 1 none 1 D (xtys cI cB cZ cQ) (xcell g cI cB cZ cQ) xord g Am [.ref (g k0)] S none o.2 :=
  gM_of O.1 P (by decide) (Nat.le_of_ble_eq_true rfl) (fun p e s m args below meth c ls C X hl => bX9_clear_0 C O hk_k0 X (lv_sub hl [0] rfl) hF)
-- X9.isGrotto
noncomputable def fX9_isGrotto_b17 (N : Nat) (t0 : Int32) (S : gS) : Option (Int32 × gS) := chk (zb t0) (some (t0, S))
theorem bX9_isGrotto_17 {N : Nat} {t0 : Int32} {S : gS} {H : Heap} {locs : List Loc} {ls : Array Slot} {o : Int32 × gS} (C : gC p s m args meth c cX9_isGrotto 2 RX9 ((some .boolean)) D (xtys cI cB cZ cQ) xord g Am) (O : xO g cI cB cZ cQ Am) (X : gX D (xcell g cI cB cZ cQ) xord g S s H locs) (hl : lv_has ls 2 []) (hF : fX9_isGrotto_b17 N t0 S = some o) : W p l e (rmd 0) s m args below meth c H locs 0 0 (gE below args s D (xtys cI cB cZ cQ) (xcell g cI cB cZ cQ) xord g (some (.int o.1)) o.2) (F0 m 17 ls [.int t0]) := by
  unfold fX9_isGrotto_b17 at hF
  obtain ⟨h_1, hF⟩ := chk_some hF
  cases hF
  exact g_zret C X h_1 dX9_isGrotto_17
noncomputable def fX9_isGrotto_b16 (N : Nat) (S : gS) : Option (Int32 × gS) := fX9_isGrotto_b17 N 0 S
theorem bX9_isGrotto_16 {N : Nat} {S : gS} {H : Heap} {locs : List Loc} {ls : Array Slot} {o : Int32 × gS} (C : gC p s m args meth c cX9_isGrotto 2 RX9 ((some .boolean)) D (xtys cI cB cZ cQ) xord g Am) (O : xO g cI cB cZ cQ Am) (X : gX D (xcell g cI cB cZ cQ) xord g S s H locs) (hl : lv_has ls 2 []) (hF : fX9_isGrotto_b16 N S = some o) : W p l e (rmd 0) s m args below meth c H locs 0 0 (gE below args s D (xtys cI cB cZ cQ) (xcell g cI cB cZ cQ) xord g (some (.int o.1)) o.2) (F0 m 16 ls []) := by
  unfold fX9_isGrotto_b16 at hF
  refine lv_iconst (v := 0) C.1.1 C.1.2.1 dX9_isGrotto_16 (by decide) ?_
  exact bX9_isGrotto_17 C O X (lv_sub hl [] rfl) hF
noncomputable def fX9_isGrotto_b12 (N : Nat) (S : gS) : Option (Int32 × gS) := fX9_isGrotto_b17 N 1 S
theorem bX9_isGrotto_12 {N : Nat} {S : gS} {H : Heap} {locs : List Loc} {ls : Array Slot} {o : Int32 × gS} (C : gC p s m args meth c cX9_isGrotto 2 RX9 ((some .boolean)) D (xtys cI cB cZ cQ) xord g Am) (O : xO g cI cB cZ cQ Am) (X : gX D (xcell g cI cB cZ cQ) xord g S s H locs) (hl : lv_has ls 2 []) (hF : fX9_isGrotto_b12 N S = some o) : W p l e (rmd 0) s m args below meth c H locs 0 0 (gE below args s D (xtys cI cB cZ cQ) (xcell g cI cB cZ cQ) xord g (some (.int o.1)) o.2) (F0 m 12 ls []) := by
  unfold fX9_isGrotto_b12 at hF
  refine lv_iconst (v := 1) C.1.1 C.1.2.1 dX9_isGrotto_12 (by decide) ?_
  refine lv_goto (tgt := 17) C.1.1 C.1.2.1 dX9_isGrotto_13 (by decide) ?_
  exact bX9_isGrotto_17 C O X (lv_sub hl [] rfl) hF
noncomputable def fX9_isGrotto_b4 (N : Nat) (k0 : Nat) (x1 : Int32) (S : gS) : Option (Int32 × gS) := if (S k0 0) ≤ x1 then fX9_isGrotto_b16 N S else fX9_isGrotto_b12 N S
theorem bX9_isGrotto_4 {N : Nat} {k0 : Nat} {x1 : Int32} {S : gS} {H : Heap} {locs : List Loc} {ls : Array Slot} {o : Int32 × gS} (C : gC p s m args meth c cX9_isGrotto 2 RX9 ((some .boolean)) D (xtys cI cB cZ cQ) xord g Am) (O : xO g cI cB cZ cQ Am) (hk_k0 : xk k0 = 9) (X : gX D (xcell g cI cB cZ cQ) xord g S s H locs) (hl : lv_has ls 2 [(0, .ref (g k0)), (1, .int x1)]) (hF : fX9_isGrotto_b4 N k0 x1 S = some o) : W p l e (rmd 0) s m args below meth c H locs 0 0 (gE below args s D (xtys cI cB cZ cQ) (xcell g cI cB cZ cQ) xord g (some (.int o.1)) o.2) (F0 m 4 ls []) := by
  unfold fX9_isGrotto_b4 at hF
  refine lv_iload_n C.1.1 C.1.2.1 dX9_isGrotto_4 rfl (lv_at hl 1 rfl) ?_
  refine lv_aload_n C.1.1 C.1.2.1 dX9_isGrotto_5 rfl (lv_at hl 0 rfl) ?_
  refine xg_X9_9 C O X (k := k0) hk_k0 dX9_isGrotto_6 ?_
  refine lv_icmp_ge (tgt := 16) C.1.1 C.1.2.1 dX9_isGrotto_9 (by decide) (fun h_z => ?_) (fun h_z => ?_)
  · rw [if_pos h_z] at hF
    exact bX9_isGrotto_16 C O X (lv_sub hl [] rfl) hF
  · rw [if_neg h_z] at hF
    exact bX9_isGrotto_12 C O X (lv_sub hl [] rfl) hF
noncomputable def fX9_isGrotto_b0 (N : Nat) (k0 : Nat) (x1 : Int32) (S : gS) : Option (Int32 × gS) := if x1 < 0 then fX9_isGrotto_b16 N S else fX9_isGrotto_b4 N k0 x1 S
theorem bX9_isGrotto_0 {N : Nat} {k0 : Nat} {x1 : Int32} {S : gS} {H : Heap} {locs : List Loc} {ls : Array Slot} {o : Int32 × gS} (C : gC p s m args meth c cX9_isGrotto 2 RX9 ((some .boolean)) D (xtys cI cB cZ cQ) xord g Am) (O : xO g cI cB cZ cQ Am) (hk_k0 : xk k0 = 9) (X : gX D (xcell g cI cB cZ cQ) xord g S s H locs) (hl : lv_has ls 2 [(0, .ref (g k0)), (1, .int x1)]) (hF : fX9_isGrotto_b0 N k0 x1 S = some o) : W p l e (rmd 0) s m args below meth c H locs 0 0 (gE below args s D (xtys cI cB cZ cQ) (xcell g cI cB cZ cQ) xord g (some (.int o.1)) o.2) (F0 m 0 ls []) := by
  unfold fX9_isGrotto_b0 at hF
  refine lv_iload_n C.1.1 C.1.2.1 dX9_isGrotto_0 rfl (lv_at hl 1 rfl) ?_
  refine lv_if_lt (tgt := 16) C.1.1 C.1.2.1 dX9_isGrotto_1 (by decide) (fun h_z => ?_) (fun h_z => ?_)
  · rw [if_pos h_z] at hF
    exact bX9_isGrotto_16 C O X (lv_sub hl [] rfl) hF
  · rw [if_neg h_z] at hF
    exact bX9_isGrotto_4 C O (hk_k0 : xk k0 = 9) X (lv_sub hl [0, 1] rfl) hF
noncomputable def fX9_isGrotto (N : Nat) (k0 : Nat) (x1 : Int32) (S : gS) : Option (Int32 × gS) := fX9_isGrotto_b0 N k0 x1 S
theorem kX9_isGrotto {l : Launch} {D : va_G} {g : Nat → Nat} {cI cB cZ cQ : ClassId} {Am : (Nat → Prop) → State → Heap → Prop} (O : xO g cI cB cZ cQ Am) (P : gAm Am) (N : Nat) (k0 : Nat) (x1 : Int32) (hk_k0 : xk k0 = 9) (S : gS) (o : Int32 × gS) (hF : fX9_isGrotto N k0 x1 S = some o) : gM l yX9_isGrotto cX9_isGrotto 2 ((some .boolean)) 0 D (xtys cI cB cZ cQ) (xcell g cI cB cZ cQ) xord g Am [.ref (g k0), .int x1] S (some (.int o.1)) o.2 :=
  gM_of O.1 P (by decide) (Nat.le_of_ble_eq_true rfl) (fun p e s m args below meth c ls C X hl => bX9_isGrotto_0 C O hk_k0 X (lv_sub hl [0, 1] rfl) hF)
-- X9.isGuild
noncomputable def fX9_isGuild_b17 (N : Nat) (t0 : Int32) (S : gS) : Option (Int32 × gS) := chk (zb t0) (some (t0, S))
theorem bX9_isGuild_17 {N : Nat} {t0 : Int32} {S : gS} {H : Heap} {locs : List Loc} {ls : Array Slot} {o : Int32 × gS} (C : gC p s m args meth c cX9_isGuild 2 RX9 ((some .boolean)) D (xtys cI cB cZ cQ) xord g Am) (O : xO g cI cB cZ cQ Am) (X : gX D (xcell g cI cB cZ cQ) xord g S s H locs) (hl : lv_has ls 2 []) (hF : fX9_isGuild_b17 N t0 S = some o) : W p l e (rmd 0) s m args below meth c H locs 0 0 (gE below args s D (xtys cI cB cZ cQ) (xcell g cI cB cZ cQ) xord g (some (.int o.1)) o.2) (F0 m 17 ls [.int t0]) := by
  unfold fX9_isGuild_b17 at hF
  obtain ⟨h_1, hF⟩ := chk_some hF
  cases hF
  exact g_zret C X h_1 dX9_isGuild_17
noncomputable def fX9_isGuild_b16 (N : Nat) (S : gS) : Option (Int32 × gS) := fX9_isGuild_b17 N 0 S
theorem bX9_isGuild_16 {N : Nat} {S : gS} {H : Heap} {locs : List Loc} {ls : Array Slot} {o : Int32 × gS} (C : gC p s m args meth c cX9_isGuild 2 RX9 ((some .boolean)) D (xtys cI cB cZ cQ) xord g Am) (O : xO g cI cB cZ cQ Am) (X : gX D (xcell g cI cB cZ cQ) xord g S s H locs) (hl : lv_has ls 2 []) (hF : fX9_isGuild_b16 N S = some o) : W p l e (rmd 0) s m args below meth c H locs 0 0 (gE below args s D (xtys cI cB cZ cQ) (xcell g cI cB cZ cQ) xord g (some (.int o.1)) o.2) (F0 m 16 ls []) := by
  unfold fX9_isGuild_b16 at hF
  refine lv_iconst (v := 0) C.1.1 C.1.2.1 dX9_isGuild_16 (by decide) ?_
  exact bX9_isGuild_17 C O X (lv_sub hl [] rfl) hF
noncomputable def fX9_isGuild_b12 (N : Nat) (S : gS) : Option (Int32 × gS) := fX9_isGuild_b17 N 1 S
theorem bX9_isGuild_12 {N : Nat} {S : gS} {H : Heap} {locs : List Loc} {ls : Array Slot} {o : Int32 × gS} (C : gC p s m args meth c cX9_isGuild 2 RX9 ((some .boolean)) D (xtys cI cB cZ cQ) xord g Am) (O : xO g cI cB cZ cQ Am) (X : gX D (xcell g cI cB cZ cQ) xord g S s H locs) (hl : lv_has ls 2 []) (hF : fX9_isGuild_b12 N S = some o) : W p l e (rmd 0) s m args below meth c H locs 0 0 (gE below args s D (xtys cI cB cZ cQ) (xcell g cI cB cZ cQ) xord g (some (.int o.1)) o.2) (F0 m 12 ls []) := by
  unfold fX9_isGuild_b12 at hF
  refine lv_iconst (v := 1) C.1.1 C.1.2.1 dX9_isGuild_12 (by decide) ?_
  refine lv_goto (tgt := 17) C.1.1 C.1.2.1 dX9_isGuild_13 (by decide) ?_
  exact bX9_isGuild_17 C O X (lv_sub hl [] rfl) hF
noncomputable def fX9_isGuild_b4 (N : Nat) (k0 : Nat) (x1 : Int32) (S : gS) : Option (Int32 × gS) := if (S k0 5) ≤ x1 then fX9_isGuild_b16 N S else fX9_isGuild_b12 N S
theorem bX9_isGuild_4 {N : Nat} {k0 : Nat} {x1 : Int32} {S : gS} {H : Heap} {locs : List Loc} {ls : Array Slot} {o : Int32 × gS} (C : gC p s m args meth c cX9_isGuild 2 RX9 ((some .boolean)) D (xtys cI cB cZ cQ) xord g Am) (O : xO g cI cB cZ cQ Am) (hk_k0 : xk k0 = 9) (X : gX D (xcell g cI cB cZ cQ) xord g S s H locs) (hl : lv_has ls 2 [(0, .ref (g k0)), (1, .int x1)]) (hF : fX9_isGuild_b4 N k0 x1 S = some o) : W p l e (rmd 0) s m args below meth c H locs 0 0 (gE below args s D (xtys cI cB cZ cQ) (xcell g cI cB cZ cQ) xord g (some (.int o.1)) o.2) (F0 m 4 ls []) := by
  unfold fX9_isGuild_b4 at hF
  refine lv_iload_n C.1.1 C.1.2.1 dX9_isGuild_4 rfl (lv_at hl 1 rfl) ?_
  refine lv_aload_n C.1.1 C.1.2.1 dX9_isGuild_5 rfl (lv_at hl 0 rfl) ?_
  refine xg_X9_29 C O X (k := k0) hk_k0 dX9_isGuild_6 ?_
  refine lv_icmp_ge (tgt := 16) C.1.1 C.1.2.1 dX9_isGuild_9 (by decide) (fun h_z => ?_) (fun h_z => ?_)
  · rw [if_pos h_z] at hF
    exact bX9_isGuild_16 C O X (lv_sub hl [] rfl) hF
  · rw [if_neg h_z] at hF
    exact bX9_isGuild_12 C O X (lv_sub hl [] rfl) hF
noncomputable def fX9_isGuild_b0 (N : Nat) (k0 : Nat) (x1 : Int32) (S : gS) : Option (Int32 × gS) := if x1 < 0 then fX9_isGuild_b16 N S else fX9_isGuild_b4 N k0 x1 S
theorem bX9_isGuild_0 {N : Nat} {k0 : Nat} {x1 : Int32} {S : gS} {H : Heap} {locs : List Loc} {ls : Array Slot} {o : Int32 × gS} (C : gC p s m args meth c cX9_isGuild 2 RX9 ((some .boolean)) D (xtys cI cB cZ cQ) xord g Am) (O : xO g cI cB cZ cQ Am) (hk_k0 : xk k0 = 9) (X : gX D (xcell g cI cB cZ cQ) xord g S s H locs) (hl : lv_has ls 2 [(0, .ref (g k0)), (1, .int x1)]) (hF : fX9_isGuild_b0 N k0 x1 S = some o) : W p l e (rmd 0) s m args below meth c H locs 0 0 (gE below args s D (xtys cI cB cZ cQ) (xcell g cI cB cZ cQ) xord g (some (.int o.1)) o.2) (F0 m 0 ls []) := by
  unfold fX9_isGuild_b0 at hF
  refine lv_iload_n C.1.1 C.1.2.1 dX9_isGuild_0 rfl (lv_at hl 1 rfl) ?_
  refine lv_if_lt (tgt := 16) C.1.1 C.1.2.1 dX9_isGuild_1 (by decide) (fun h_z => ?_) (fun h_z => ?_)
  · rw [if_pos h_z] at hF
    exact bX9_isGuild_16 C O X (lv_sub hl [] rfl) hF
  · rw [if_neg h_z] at hF
    exact bX9_isGuild_4 C O (hk_k0 : xk k0 = 9) X (lv_sub hl [0, 1] rfl) hF
noncomputable def fX9_isGuild (N : Nat) (k0 : Nat) (x1 : Int32) (S : gS) : Option (Int32 × gS) := fX9_isGuild_b0 N k0 x1 S
theorem kX9_isGuild {l : Launch} {D : va_G} {g : Nat → Nat} {cI cB cZ cQ : ClassId} {Am : (Nat → Prop) → State → Heap → Prop} (O : xO g cI cB cZ cQ Am) (P : gAm Am) (N : Nat) (k0 : Nat) (x1 : Int32) (hk_k0 : xk k0 = 9) (S : gS) (o : Int32 × gS) (hF : fX9_isGuild N k0 x1 S = some o) : gM l yX9_isGuild cX9_isGuild 2 ((some .boolean)) 0 D (xtys cI cB cZ cQ) (xcell g cI cB cZ cQ) xord g Am [.ref (g k0), .int x1] S (some (.int o.1)) o.2 :=
  gM_of O.1 P (by decide) (Nat.le_of_ble_eq_true rfl) (fun p e s m args below meth c ls C X hl => bX9_isGuild_0 C O hk_k0 X (lv_sub hl [0, 1] rfl) hF)
-- X9.isBoundTold
noncomputable def fX9_isBoundTold_b12 (N : Nat) (t0 : Int32) (S : gS) : Option (Int32 × gS) := chk (zb t0) (some (t0, S))
theorem bX9_isBoundTold_12 {N : Nat} {t0 : Int32} {S : gS} {H : Heap} {locs : List Loc} {ls : Array Slot} {o : Int32 × gS} (C : gC p s m args meth c cX9_isBoundTold 1 RX9 ((some .boolean)) D (xtys cI cB cZ cQ) xord g Am) (O : xO g cI cB cZ cQ Am) (X : gX D (xcell g cI cB cZ cQ) xord g S s H locs) (hl : lv_has ls 1 []) (hF : fX9_isBoundTold_b12 N t0 S = some o) : W p l e (rmd 0) s m args below meth c H locs 0 0 (gE below args s D (xtys cI cB cZ cQ) (xcell g cI cB cZ cQ) xord g (some (.int o.1)) o.2) (F0 m 12 ls [.int t0]) := by
  unfold fX9_isBoundTold_b12 at hF
  obtain ⟨h_1, hF⟩ := chk_some hF
  cases hF
  exact g_zret C X h_1 dX9_isBoundTold_12
noncomputable def fX9_isBoundTold_b11 (N : Nat) (S : gS) : Option (Int32 × gS) := fX9_isBoundTold_b12 N 0 S
theorem bX9_isBoundTold_11 {N : Nat} {S : gS} {H : Heap} {locs : List Loc} {ls : Array Slot} {o : Int32 × gS} (C : gC p s m args meth c cX9_isBoundTold 1 RX9 ((some .boolean)) D (xtys cI cB cZ cQ) xord g Am) (O : xO g cI cB cZ cQ Am) (X : gX D (xcell g cI cB cZ cQ) xord g S s H locs) (hl : lv_has ls 1 []) (hF : fX9_isBoundTold_b11 N S = some o) : W p l e (rmd 0) s m args below meth c H locs 0 0 (gE below args s D (xtys cI cB cZ cQ) (xcell g cI cB cZ cQ) xord g (some (.int o.1)) o.2) (F0 m 11 ls []) := by
  unfold fX9_isBoundTold_b11 at hF
  refine lv_iconst (v := 0) C.1.1 C.1.2.1 dX9_isBoundTold_11 (by decide) ?_
  exact bX9_isBoundTold_12 C O X (lv_sub hl [] rfl) hF
noncomputable def fX9_isBoundTold_b7 (N : Nat) (S : gS) : Option (Int32 × gS) := fX9_isBoundTold_b12 N 1 S
theorem bX9_isBoundTold_7 {N : Nat} {S : gS} {H : Heap} {locs : List Loc} {ls : Array Slot} {o : Int32 × gS} (C : gC p s m args meth c cX9_isBoundTold 1 RX9 ((some .boolean)) D (xtys cI cB cZ cQ) xord g Am) (O : xO g cI cB cZ cQ Am) (X : gX D (xcell g cI cB cZ cQ) xord g S s H locs) (hl : lv_has ls 1 []) (hF : fX9_isBoundTold_b7 N S = some o) : W p l e (rmd 0) s m args below meth c H locs 0 0 (gE below args s D (xtys cI cB cZ cQ) (xcell g cI cB cZ cQ) xord g (some (.int o.1)) o.2) (F0 m 7 ls []) := by
  unfold fX9_isBoundTold_b7 at hF
  refine lv_iconst (v := 1) C.1.1 C.1.2.1 dX9_isBoundTold_7 (by decide) ?_
  refine lv_goto (tgt := 12) C.1.1 C.1.2.1 dX9_isBoundTold_8 (by decide) ?_
  exact bX9_isBoundTold_12 C O X (lv_sub hl [] rfl) hF
noncomputable def fX9_isBoundTold_b0 (N : Nat) (k0 : Nat) (S : gS) : Option (Int32 × gS) := if (S k0 12) = 0 then fX9_isBoundTold_b11 N S else fX9_isBoundTold_b7 N S
theorem bX9_isBoundTold_0 {N : Nat} {k0 : Nat} {S : gS} {H : Heap} {locs : List Loc} {ls : Array Slot} {o : Int32 × gS} (C : gC p s m args meth c cX9_isBoundTold 1 RX9 ((some .boolean)) D (xtys cI cB cZ cQ) xord g Am) (O : xO g cI cB cZ cQ Am) (hk_k0 : xk k0 = 9) (X : gX D (xcell g cI cB cZ cQ) xord g S s H locs) (hl : lv_has ls 1 [(0, .ref (g k0))]) (hF : fX9_isBoundTold_b0 N k0 S = some o) : W p l e (rmd 0) s m args below meth c H locs 0 0 (gE below args s D (xtys cI cB cZ cQ) (xcell g cI cB cZ cQ) xord g (some (.int o.1)) o.2) (F0 m 0 ls []) := by
  unfold fX9_isBoundTold_b0 at hF
  refine lv_aload_n C.1.1 C.1.2.1 dX9_isBoundTold_0 rfl (lv_at hl 0 rfl) ?_
  refine xg_X9_50 C O X (k := k0) hk_k0 dX9_isBoundTold_1 ?_
  refine lv_if_eq (tgt := 11) C.1.1 C.1.2.1 dX9_isBoundTold_4 (by decide) (fun h_z => ?_) (fun h_z => ?_)
  · rw [if_pos h_z] at hF
    exact bX9_isBoundTold_11 C O X (lv_sub hl [] rfl) hF
  · rw [if_neg h_z] at hF
    exact bX9_isBoundTold_7 C O X (lv_sub hl [] rfl) hF
noncomputable def fX9_isBoundTold (N : Nat) (k0 : Nat) (S : gS) : Option (Int32 × gS) := fX9_isBoundTold_b0 N k0 S
theorem kX9_isBoundTold {l : Launch} {D : va_G} {g : Nat → Nat} {cI cB cZ cQ : ClassId} {Am : (Nat → Prop) → State → Heap → Prop} (O : xO g cI cB cZ cQ Am) (P : gAm Am) (N : Nat) (k0 : Nat) (hk_k0 : xk k0 = 9) (S : gS) (o : Int32 × gS) (hF : fX9_isBoundTold N k0 S = some o) : gM l yX9_isBoundTold cX9_isBoundTold 1 ((some .boolean)) 0 D (xtys cI cB cZ cQ) (xcell g cI cB cZ cQ) xord g Am [.ref (g k0)] S (some (.int o.1)) o.2 :=
  gM_of O.1 P (by decide) (Nat.le_of_ble_eq_true rfl) (fun p e s m args below meth c ls C X hl => bX9_isBoundTold_0 C O hk_k0 X (lv_sub hl [0] rfl) hF)
-- X9.mostSin
noncomputable def fX9_mostSin_b16 (N : Nat) (t0 : Int32) (S : gS) : Option (Int32 × gS) := some (t0, S)
theorem bX9_mostSin_16 {N : Nat} {t0 : Int32} {S : gS} {H : Heap} {locs : List Loc} {ls : Array Slot} {o : Int32 × gS} (C : gC p s m args meth c cX9_mostSin 1 RX9 ((some .int)) D (xtys cI cB cZ cQ) xord g Am) (O : xO g cI cB cZ cQ Am) (X : gX D (xcell g cI cB cZ cQ) xord g S s H locs) (hl : lv_has ls 1 []) (hF : fX9_mostSin_b16 N t0 S = some o) : W p l e (rmd 1) s m args below meth c H locs 0 0 (gE below args s D (xtys cI cB cZ cQ) (xcell g cI cB cZ cQ) xord g (some (.int o.1)) o.2) (F0 m 16 ls [.int t0]) := by
  unfold fX9_mostSin_b16 at hF
  cases hF
  exact g_iret C X dX9_mostSin_16
noncomputable def fX9_mostSin_b14 (N : Nat) (S : gS) : Option (Int32 × gS) := fX9_mostSin_b16 N 70 S
theorem bX9_mostSin_14 {N : Nat} {S : gS} {H : Heap} {locs : List Loc} {ls : Array Slot} {o : Int32 × gS} (C : gC p s m args meth c cX9_mostSin 1 RX9 ((some .int)) D (xtys cI cB cZ cQ) xord g Am) (O : xO g cI cB cZ cQ Am) (X : gX D (xcell g cI cB cZ cQ) xord g S s H locs) (hl : lv_has ls 1 []) (hF : fX9_mostSin_b14 N S = some o) : W p l e (rmd 1) s m args below meth c H locs 0 0 (gE below args s D (xtys cI cB cZ cQ) (xcell g cI cB cZ cQ) xord g (some (.int o.1)) o.2) (F0 m 14 ls []) := by
  unfold fX9_mostSin_b14 at hF
  refine lv_bipush (v := 70) C.1.1 C.1.2.1 dX9_mostSin_14 (by decide) ?_
  exact bX9_mostSin_16 C O X (lv_sub hl [] rfl) hF
noncomputable def fX9_mostSin_b7 (N : Nat) (k0 : Nat) (S : gS) : Option (Int32 × gS) := fX9_mostSin_b16 N (S k0 12) S
theorem bX9_mostSin_7 {N : Nat} {k0 : Nat} {S : gS} {H : Heap} {locs : List Loc} {ls : Array Slot} {o : Int32 × gS} (C : gC p s m args meth c cX9_mostSin 1 RX9 ((some .int)) D (xtys cI cB cZ cQ) xord g Am) (O : xO g cI cB cZ cQ Am) (hk_k0 : xk k0 = 9) (X : gX D (xcell g cI cB cZ cQ) xord g S s H locs) (hl : lv_has ls 1 [(0, .ref (g k0))]) (hF : fX9_mostSin_b7 N k0 S = some o) : W p l e (rmd 1) s m args below meth c H locs 0 0 (gE below args s D (xtys cI cB cZ cQ) (xcell g cI cB cZ cQ) xord g (some (.int o.1)) o.2) (F0 m 7 ls []) := by
  unfold fX9_mostSin_b7 at hF
  refine lv_aload_n C.1.1 C.1.2.1 dX9_mostSin_7 rfl (lv_at hl 0 rfl) ?_
  refine xg_X9_50 C O X (k := k0) hk_k0 dX9_mostSin_8 ?_
  refine lv_goto (tgt := 16) C.1.1 C.1.2.1 dX9_mostSin_11 (by decide) ?_
  exact bX9_mostSin_16 C O X (lv_sub hl [] rfl) hF
noncomputable def fX9_mostSin_b0 (N : Nat) (k0 : Nat) (S : gS) : Option (Int32 × gS) := bnd (fX9_isBoundTold N k0 S) fun q1 => (if q1.1 = 0 then fX9_mostSin_b14 N q1.2 else fX9_mostSin_b7 N k0 q1.2)
theorem bX9_mostSin_0 {N : Nat} {k0 : Nat} {S : gS} {H : Heap} {locs : List Loc} {ls : Array Slot} {o : Int32 × gS} (C : gC p s m args meth c cX9_mostSin 1 RX9 ((some .int)) D (xtys cI cB cZ cQ) xord g Am) (O : xO g cI cB cZ cQ Am) (hk_k0 : xk k0 = 9) (X : gX D (xcell g cI cB cZ cQ) xord g S s H locs) (hl : lv_has ls 1 [(0, .ref (g k0))]) (hF : fX9_mostSin_b0 N k0 S = some o) : W p l e (rmd 1) s m args below meth c H locs 0 0 (gE below args s D (xtys cI cB cZ cQ) (xcell g cI cB cZ cQ) xord g (some (.int o.1)) o.2) (F0 m 0 ls []) := by
  unfold fX9_mostSin_b0 at hF
  refine lv_aload_n C.1.1 C.1.2.1 dX9_mostSin_0 rfl (lv_at hl 0 rfl) ?_
  obtain ⟨q1, hq1, hF⟩ := bnd_some hF
  refine x_callVi C X (k := k0) xv_X9_68 hk_k0 rfl rfl (by decide) (kX9_isBoundTold O C.2.2.2.2.1 N k0 (hk_k0 : xk k0 = 9) S q1 hq1) (Nat.le_of_ble_eq_true rfl) (Nat.le_of_ble_eq_true rfl) (Nat.le_of_ble_eq_true rfl) (Nat.le_of_ble_eq_true rfl) rfl hl.1 rfl (Nat.le_of_ble_eq_true rfl) dX9_mostSin_1 (fun H locs X => ?_)
  refine lv_if_eq (tgt := 14) C.1.1 C.1.2.1 dX9_mostSin_4 (by decide) (fun h_z => ?_) (fun h_z => ?_)
  · rw [if_pos h_z] at hF
    exact bX9_mostSin_14 C O X (lv_sub hl [] rfl) hF
  · rw [if_neg h_z] at hF
    exact bX9_mostSin_7 C O (hk_k0 : xk k0 = 9) X (lv_sub hl [0] rfl) hF
noncomputable def fX9_mostSin (N : Nat) (k0 : Nat) (S : gS) : Option (Int32 × gS) := fX9_mostSin_b0 N k0 S
theorem kX9_mostSin {l : Launch} {D : va_G} {g : Nat → Nat} {cI cB cZ cQ : ClassId} {Am : (Nat → Prop) → State → Heap → Prop} (O : xO g cI cB cZ cQ Am) (P : gAm Am) (N : Nat) (k0 : Nat) (hk_k0 : xk k0 = 9) (S : gS) (o : Int32 × gS) (hF : fX9_mostSin N k0 S = some o) : gM l yX9_mostSin cX9_mostSin 1 ((some .int)) 1 D (xtys cI cB cZ cQ) (xcell g cI cB cZ cQ) xord g Am [.ref (g k0)] S (some (.int o.1)) o.2 :=
  gM_of O.1 P (by decide) (Nat.le_of_ble_eq_true rfl) (fun p e s m args below meth c ls C X hl => bX9_mostSin_0 C O hk_k0 X (lv_sub hl [0] rfl) hF)
-- X9.wetOf
noncomputable def fX9_wetOf_b27 (N : Nat) (t0 : Int32) (S : gS) : Option (Int32 × gS) := some (t0, S)
theorem bX9_wetOf_27 {N : Nat} {t0 : Int32} {S : gS} {H : Heap} {locs : List Loc} {ls : Array Slot} {o : Int32 × gS} (C : gC p s m args meth c cX9_wetOf 2 RX9 ((some .int)) D (xtys cI cB cZ cQ) xord g Am) (O : xO g cI cB cZ cQ Am) (X : gX D (xcell g cI cB cZ cQ) xord g S s H locs) (hl : lv_has ls 2 []) (hF : fX9_wetOf_b27 N t0 S = some o) : W p l e (rmd 0) s m args below meth c H locs 0 0 (gE below args s D (xtys cI cB cZ cQ) (xcell g cI cB cZ cQ) xord g (some (.int o.1)) o.2) (F0 m 27 ls [.int t0]) := by
  unfold fX9_wetOf_b27 at hF
  cases hF
  exact g_iret C X dX9_wetOf_27
noncomputable def fX9_wetOf_b16 (N : Nat) (k0 : Nat) (x1 : Int32) (S : gS) : Option (Int32 × gS) := chk (nz (S k0 10)) (chk (inb ((x1 - x1 / (S k0 10) * (S k0 10) : Int32)) 8) (fX9_wetOf_b27 N (S (k0 + 9) (Int32.toNatClampNeg ((x1 - x1 / (S k0 10) * (S k0 10) : Int32)))) S))
theorem bX9_wetOf_16 {N : Nat} {k0 : Nat} {x1 : Int32} {S : gS} {H : Heap} {locs : List Loc} {ls : Array Slot} {o : Int32 × gS} (C : gC p s m args meth c cX9_wetOf 2 RX9 ((some .int)) D (xtys cI cB cZ cQ) xord g Am) (O : xO g cI cB cZ cQ Am) (hk_k0 : xk k0 = 9) (X : gX D (xcell g cI cB cZ cQ) xord g S s H locs) (hl : lv_has ls 2 [(0, .ref (g k0)), (1, .int x1)]) (hF : fX9_wetOf_b16 N k0 x1 S = some o) : W p l e (rmd 0) s m args below meth c H locs 0 0 (gE below args s D (xtys cI cB cZ cQ) (xcell g cI cB cZ cQ) xord g (some (.int o.1)) o.2) (F0 m 16 ls []) := by
  unfold fX9_wetOf_b16 at hF
  refine lv_aload_n C.1.1 C.1.2.1 dX9_wetOf_16 rfl (lv_at hl 0 rfl) ?_
  refine xg_X9_47 C O X (k := k0) hk_k0 (j := k0 + 9) rfl dX9_wetOf_17 ?_
  refine lv_iload_n C.1.1 C.1.2.1 dX9_wetOf_20 rfl (lv_at hl 1 rfl) ?_
  refine lv_aload_n C.1.1 C.1.2.1 dX9_wetOf_21 rfl (lv_at hl 0 rfl) ?_
  refine xg_X9_44 C O X (k := k0) hk_k0 dX9_wetOf_22 ?_
  obtain ⟨h_1, hF⟩ := chk_some hF
  refine lv_irem C.1.1 C.1.2.1 dX9_wetOf_25 (nz_ne h_1) ?_
  obtain ⟨h_2, hF⟩ := chk_some hF
  refine x_rI C X (k := k0 + 9) (xs_9_11 hk_k0).1 (n := 8) (xs_9_11 hk_k0).2  (inb_vp h_2) rfl dX9_wetOf_26 ?_
  exact bX9_wetOf_27 C O X (lv_sub hl [] rfl) hF
noncomputable def fX9_wetOf_b12 (N : Nat) (S : gS) : Option (Int32 × gS) := fX9_wetOf_b27 N 5 S
theorem bX9_wetOf_12 {N : Nat} {S : gS} {H : Heap} {locs : List Loc} {ls : Array Slot} {o : Int32 × gS} (C : gC p s m args meth c cX9_wetOf 2 RX9 ((some .int)) D (xtys cI cB cZ cQ) xord g Am) (O : xO g cI cB cZ cQ Am) (X : gX D (xcell g cI cB cZ cQ) xord g S s H locs) (hl : lv_has ls 2 []) (hF : fX9_wetOf_b12 N S = some o) : W p l e (rmd 0) s m args below meth c H locs 0 0 (gE below args s D (xtys cI cB cZ cQ) (xcell g cI cB cZ cQ) xord g (some (.int o.1)) o.2) (F0 m 12 ls []) := by
  unfold fX9_wetOf_b12 at hF
  refine lv_iconst (v := 5) C.1.1 C.1.2.1 dX9_wetOf_12 (by decide) ?_
  refine lv_goto (tgt := 27) C.1.1 C.1.2.1 dX9_wetOf_13 (by decide) ?_
  exact bX9_wetOf_27 C O X (lv_sub hl [] rfl) hF
noncomputable def fX9_wetOf_b8 (N : Nat) (k0 : Nat) (x1 : Int32) (S : gS) : Option (Int32 × gS) := if 0 ≤ x1 then fX9_wetOf_b16 N k0 x1 S else fX9_wetOf_b12 N S
theorem bX9_wetOf_8 {N : Nat} {k0 : Nat} {x1 : Int32} {S : gS} {H : Heap} {locs : List Loc} {ls : Array Slot} {o : Int32 × gS} (C : gC p s m args meth c cX9_wetOf 2 RX9 ((some .int)) D (xtys cI cB cZ cQ) xord g Am) (O : xO g cI cB cZ cQ Am) (hk_k0 : xk k0 = 9) (X : gX D (xcell g cI cB cZ cQ) xord g S s H locs) (hl : lv_has ls 2 [(0, .ref (g k0)), (1, .int x1)]) (hF : fX9_wetOf_b8 N k0 x1 S = some o) : W p l e (rmd 0) s m args below meth c H locs 0 0 (gE below args s D (xtys cI cB cZ cQ) (xcell g cI cB cZ cQ) xord g (some (.int o.1)) o.2) (F0 m 8 ls []) := by
  unfold fX9_wetOf_b8 at hF
  refine lv_iload_n C.1.1 C.1.2.1 dX9_wetOf_8 rfl (lv_at hl 1 rfl) ?_
  refine lv_if_ge (tgt := 16) C.1.1 C.1.2.1 dX9_wetOf_9 (by decide) (fun h_z => ?_) (fun h_z => ?_)
  · rw [if_pos h_z] at hF
    exact bX9_wetOf_16 C O (hk_k0 : xk k0 = 9) X (lv_sub hl [0, 1] rfl) hF
  · rw [if_neg h_z] at hF
    exact bX9_wetOf_12 C O X (lv_sub hl [] rfl) hF
noncomputable def fX9_wetOf_b0 (N : Nat) (k0 : Nat) (x1 : Int32) (S : gS) : Option (Int32 × gS) := if (S k0 10) < 1 then fX9_wetOf_b12 N S else fX9_wetOf_b8 N k0 x1 S
theorem bX9_wetOf_0 {N : Nat} {k0 : Nat} {x1 : Int32} {S : gS} {H : Heap} {locs : List Loc} {ls : Array Slot} {o : Int32 × gS} (C : gC p s m args meth c cX9_wetOf 2 RX9 ((some .int)) D (xtys cI cB cZ cQ) xord g Am) (O : xO g cI cB cZ cQ Am) (hk_k0 : xk k0 = 9) (X : gX D (xcell g cI cB cZ cQ) xord g S s H locs) (hl : lv_has ls 2 [(0, .ref (g k0)), (1, .int x1)]) (hF : fX9_wetOf_b0 N k0 x1 S = some o) : W p l e (rmd 0) s m args below meth c H locs 0 0 (gE below args s D (xtys cI cB cZ cQ) (xcell g cI cB cZ cQ) xord g (some (.int o.1)) o.2) (F0 m 0 ls []) := by
  unfold fX9_wetOf_b0 at hF
  refine lv_aload_n C.1.1 C.1.2.1 dX9_wetOf_0 rfl (lv_at hl 0 rfl) ?_
  refine xg_X9_44 C O X (k := k0) hk_k0 dX9_wetOf_1 ?_
  refine lv_iconst (v := 1) C.1.1 C.1.2.1 dX9_wetOf_4 (by decide) ?_
  refine lv_icmp_lt (tgt := 12) C.1.1 C.1.2.1 dX9_wetOf_5 (by decide) (fun h_z => ?_) (fun h_z => ?_)
  · rw [if_pos h_z] at hF
    exact bX9_wetOf_12 C O X (lv_sub hl [] rfl) hF
  · rw [if_neg h_z] at hF
    exact bX9_wetOf_8 C O (hk_k0 : xk k0 = 9) X (lv_sub hl [0, 1] rfl) hF
noncomputable def fX9_wetOf (N : Nat) (k0 : Nat) (x1 : Int32) (S : gS) : Option (Int32 × gS) := fX9_wetOf_b0 N k0 x1 S
theorem kX9_wetOf {l : Launch} {D : va_G} {g : Nat → Nat} {cI cB cZ cQ : ClassId} {Am : (Nat → Prop) → State → Heap → Prop} (O : xO g cI cB cZ cQ Am) (P : gAm Am) (N : Nat) (k0 : Nat) (x1 : Int32) (hk_k0 : xk k0 = 9) (S : gS) (o : Int32 × gS) (hF : fX9_wetOf N k0 x1 S = some o) : gM l yX9_wetOf cX9_wetOf 2 ((some .int)) 0 D (xtys cI cB cZ cQ) (xcell g cI cB cZ cQ) xord g Am [.ref (g k0), .int x1] S (some (.int o.1)) o.2 :=
  gM_of O.1 P (by decide) (Nat.le_of_ble_eq_true rfl) (fun p e s m args below meth c ls C X hl => bX9_wetOf_0 C O hk_k0 X (lv_sub hl [0, 1] rfl) hF)
-- X9.comesRound
noncomputable def fX9_comesRound_b41 (N : Nat) (t0 : Int32) (S : gS) : Option (Int32 × gS) := chk (zb t0) (some (t0, S))
theorem bX9_comesRound_41 {N : Nat} {t0 : Int32} {S : gS} {H : Heap} {locs : List Loc} {ls : Array Slot} {o : Int32 × gS} (C : gC p s m args meth c cX9_comesRound 3 RX9 ((some .boolean)) D (xtys cI cB cZ cQ) xord g Am) (O : xO g cI cB cZ cQ Am) (X : gX D (xcell g cI cB cZ cQ) xord g S s H locs) (hl : lv_has ls 3 []) (hF : fX9_comesRound_b41 N t0 S = some o) : W p l e (rmd 1) s m args below meth c H locs 0 0 (gE below args s D (xtys cI cB cZ cQ) (xcell g cI cB cZ cQ) xord g (some (.int o.1)) o.2) (F0 m 41 ls [.int t0]) := by
  unfold fX9_comesRound_b41 at hF
  obtain ⟨h_1, hF⟩ := chk_some hF
  cases hF
  exact g_zret C X h_1 dX9_comesRound_41
noncomputable def fX9_comesRound_b40 (N : Nat) (S : gS) : Option (Int32 × gS) := fX9_comesRound_b41 N 0 S
theorem bX9_comesRound_40 {N : Nat} {S : gS} {H : Heap} {locs : List Loc} {ls : Array Slot} {o : Int32 × gS} (C : gC p s m args meth c cX9_comesRound 3 RX9 ((some .boolean)) D (xtys cI cB cZ cQ) xord g Am) (O : xO g cI cB cZ cQ Am) (X : gX D (xcell g cI cB cZ cQ) xord g S s H locs) (hl : lv_has ls 3 []) (hF : fX9_comesRound_b40 N S = some o) : W p l e (rmd 1) s m args below meth c H locs 0 0 (gE below args s D (xtys cI cB cZ cQ) (xcell g cI cB cZ cQ) xord g (some (.int o.1)) o.2) (F0 m 40 ls []) := by
  unfold fX9_comesRound_b40 at hF
  refine lv_iconst (v := 0) C.1.1 C.1.2.1 dX9_comesRound_40 (by decide) ?_
  exact bX9_comesRound_41 C O X (lv_sub hl [] rfl) hF
noncomputable def fX9_comesRound_b36 (N : Nat) (S : gS) : Option (Int32 × gS) := fX9_comesRound_b41 N 1 S
theorem bX9_comesRound_36 {N : Nat} {S : gS} {H : Heap} {locs : List Loc} {ls : Array Slot} {o : Int32 × gS} (C : gC p s m args meth c cX9_comesRound 3 RX9 ((some .boolean)) D (xtys cI cB cZ cQ) xord g Am) (O : xO g cI cB cZ cQ Am) (X : gX D (xcell g cI cB cZ cQ) xord g S s H locs) (hl : lv_has ls 3 []) (hF : fX9_comesRound_b36 N S = some o) : W p l e (rmd 1) s m args below meth c H locs 0 0 (gE below args s D (xtys cI cB cZ cQ) (xcell g cI cB cZ cQ) xord g (some (.int o.1)) o.2) (F0 m 36 ls []) := by
  unfold fX9_comesRound_b36 at hF
  refine lv_iconst (v := 1) C.1.1 C.1.2.1 dX9_comesRound_36 (by decide) ?_
  refine lv_goto (tgt := 41) C.1.1 C.1.2.1 dX9_comesRound_37 (by decide) ?_
  exact bX9_comesRound_41 C O X (lv_sub hl [] rfl) hF
noncomputable def fX9_comesRound_b18 (N : Nat) (k0 : Nat) (x1 : Int32) (x2 : Int32) (S : gS) : Option (Int32 × gS) := chk (inb x1 8) (chk (inb x1 8) (chk (nz (S (k0 + 1) (Int32.toNatClampNeg x1))) (if ((((x2 + (S (k0 + 2) (Int32.toNatClampNeg x1)) : Int32)) - ((x2 + (S (k0 + 2) (Int32.toNatClampNeg x1)) : Int32)) / (S (k0 + 1) (Int32.toNatClampNeg x1)) * (S (k0 + 1) (Int32.toNatClampNeg x1)) : Int32)) = 0 then fX9_comesRound_b36 N S else fX9_comesRound_b40 N S)))
theorem bX9_comesRound_18 {N : Nat} {k0 : Nat} {x1 : Int32} {x2 : Int32} {S : gS} {H : Heap} {locs : List Loc} {ls : Array Slot} {o : Int32 × gS} (C : gC p s m args meth c cX9_comesRound 3 RX9 ((some .boolean)) D (xtys cI cB cZ cQ) xord g Am) (O : xO g cI cB cZ cQ Am) (hk_k0 : xk k0 = 9) (X : gX D (xcell g cI cB cZ cQ) xord g S s H locs) (hl : lv_has ls 3 [(0, .ref (g k0)), (1, .int x1), (2, .int x2)]) (hF : fX9_comesRound_b18 N k0 x1 x2 S = some o) : W p l e (rmd 1) s m args below meth c H locs 0 0 (gE below args s D (xtys cI cB cZ cQ) (xcell g cI cB cZ cQ) xord g (some (.int o.1)) o.2) (F0 m 18 ls []) := by
  unfold fX9_comesRound_b18 at hF
  refine lv_iload_n C.1.1 C.1.2.1 dX9_comesRound_18 rfl (lv_at hl 2 rfl) ?_
  refine lv_aload_n C.1.1 C.1.2.1 dX9_comesRound_19 rfl (lv_at hl 0 rfl) ?_
  refine xg_X9_19 C O X (k := k0) hk_k0 (j := k0 + 2) rfl dX9_comesRound_20 ?_
  refine lv_iload_n C.1.1 C.1.2.1 dX9_comesRound_23 rfl (lv_at hl 1 rfl) ?_
  obtain ⟨h_1, hF⟩ := chk_some hF
  refine x_rI C X (k := k0 + 2) (xs_9_2 hk_k0).1 (n := 8) (xs_9_2 hk_k0).2  (inb_vp h_1) rfl dX9_comesRound_24 ?_
  refine lv_iadd C.1.1 C.1.2.1 dX9_comesRound_25 ?_
  refine lv_aload_n C.1.1 C.1.2.1 dX9_comesRound_26 rfl (lv_at hl 0 rfl) ?_
  refine xg_X9_15 C O X (k := k0) hk_k0 (j := k0 + 1) rfl dX9_comesRound_27 ?_
  refine lv_iload_n C.1.1 C.1.2.1 dX9_comesRound_30 rfl (lv_at hl 1 rfl) ?_
  obtain ⟨h_2, hF⟩ := chk_some hF
  refine x_rI C X (k := k0 + 1) (xs_9_1 hk_k0).1 (n := 8) (xs_9_1 hk_k0).2  (inb_vp h_2) rfl dX9_comesRound_31 ?_
  obtain ⟨h_3, hF⟩ := chk_some hF
  refine lv_irem C.1.1 C.1.2.1 dX9_comesRound_32 (nz_ne h_3) ?_
  refine lv_if_ne (tgt := 40) C.1.1 C.1.2.1 dX9_comesRound_33 (by decide) (fun h_z => ?_) (fun h_z => ?_)
  · rw [if_neg h_z] at hF
    exact bX9_comesRound_40 C O X (lv_sub hl [] rfl) hF
  · rw [if_pos h_z] at hF
    exact bX9_comesRound_36 C O X (lv_sub hl [] rfl) hF
noncomputable def fX9_comesRound_b8 (N : Nat) (k0 : Nat) (x1 : Int32) (x2 : Int32) (S : gS) : Option (Int32 × gS) := chk (inb x1 8) (if (S (k0 + 1) (Int32.toNatClampNeg x1)) < 1 then fX9_comesRound_b40 N S else fX9_comesRound_b18 N k0 x1 x2 S)
theorem bX9_comesRound_8 {N : Nat} {k0 : Nat} {x1 : Int32} {x2 : Int32} {S : gS} {H : Heap} {locs : List Loc} {ls : Array Slot} {o : Int32 × gS} (C : gC p s m args meth c cX9_comesRound 3 RX9 ((some .boolean)) D (xtys cI cB cZ cQ) xord g Am) (O : xO g cI cB cZ cQ Am) (hk_k0 : xk k0 = 9) (X : gX D (xcell g cI cB cZ cQ) xord g S s H locs) (hl : lv_has ls 3 [(0, .ref (g k0)), (1, .int x1), (2, .int x2)]) (hF : fX9_comesRound_b8 N k0 x1 x2 S = some o) : W p l e (rmd 1) s m args below meth c H locs 0 0 (gE below args s D (xtys cI cB cZ cQ) (xcell g cI cB cZ cQ) xord g (some (.int o.1)) o.2) (F0 m 8 ls []) := by
  unfold fX9_comesRound_b8 at hF
  refine lv_aload_n C.1.1 C.1.2.1 dX9_comesRound_8 rfl (lv_at hl 0 rfl) ?_
  refine xg_X9_15 C O X (k := k0) hk_k0 (j := k0 + 1) rfl dX9_comesRound_9 ?_
  refine lv_iload_n C.1.1 C.1.2.1 dX9_comesRound_12 rfl (lv_at hl 1 rfl) ?_
  obtain ⟨h_1, hF⟩ := chk_some hF
  refine x_rI C X (k := k0 + 1) (xs_9_1 hk_k0).1 (n := 8) (xs_9_1 hk_k0).2  (inb_vp h_1) rfl dX9_comesRound_13 ?_
  refine lv_iconst (v := 1) C.1.1 C.1.2.1 dX9_comesRound_14 (by decide) ?_
  refine lv_icmp_lt (tgt := 40) C.1.1 C.1.2.1 dX9_comesRound_15 (by decide) (fun h_z => ?_) (fun h_z => ?_)
  · rw [if_pos h_z] at hF
    exact bX9_comesRound_40 C O X (lv_sub hl [] rfl) hF
  · rw [if_neg h_z] at hF
    exact bX9_comesRound_18 C O (hk_k0 : xk k0 = 9) X (lv_sub hl [0, 1, 2] rfl) hF
noncomputable def fX9_comesRound_b0 (N : Nat) (k0 : Nat) (x1 : Int32) (x2 : Int32) (S : gS) : Option (Int32 × gS) := bnd (fX9_isGrotto N k0 x1 S) fun q1 => (if q1.1 = 0 then fX9_comesRound_b40 N q1.2 else fX9_comesRound_b8 N k0 x1 x2 q1.2)
theorem bX9_comesRound_0 {N : Nat} {k0 : Nat} {x1 : Int32} {x2 : Int32} {S : gS} {H : Heap} {locs : List Loc} {ls : Array Slot} {o : Int32 × gS} (C : gC p s m args meth c cX9_comesRound 3 RX9 ((some .boolean)) D (xtys cI cB cZ cQ) xord g Am) (O : xO g cI cB cZ cQ Am) (hk_k0 : xk k0 = 9) (X : gX D (xcell g cI cB cZ cQ) xord g S s H locs) (hl : lv_has ls 3 [(0, .ref (g k0)), (1, .int x1), (2, .int x2)]) (hF : fX9_comesRound_b0 N k0 x1 x2 S = some o) : W p l e (rmd 1) s m args below meth c H locs 0 0 (gE below args s D (xtys cI cB cZ cQ) (xcell g cI cB cZ cQ) xord g (some (.int o.1)) o.2) (F0 m 0 ls []) := by
  unfold fX9_comesRound_b0 at hF
  refine lv_aload_n C.1.1 C.1.2.1 dX9_comesRound_0 rfl (lv_at hl 0 rfl) ?_
  refine lv_iload_n C.1.1 C.1.2.1 dX9_comesRound_1 rfl (lv_at hl 1 rfl) ?_
  obtain ⟨q1, hq1, hF⟩ := bnd_some hF
  refine x_callVi C X (k := k0) xv_X9_72 hk_k0 rfl rfl (by decide) (kX9_isGrotto O C.2.2.2.2.1 N k0 x1 (hk_k0 : xk k0 = 9) S q1 hq1) (Nat.le_of_ble_eq_true rfl) (Nat.le_of_ble_eq_true rfl) (Nat.le_of_ble_eq_true rfl) (Nat.le_of_ble_eq_true rfl) rfl hl.1 rfl (Nat.le_of_ble_eq_true rfl) dX9_comesRound_2 (fun H locs X => ?_)
  refine lv_if_eq (tgt := 40) C.1.1 C.1.2.1 dX9_comesRound_5 (by decide) (fun h_z => ?_) (fun h_z => ?_)
  · rw [if_pos h_z] at hF
    exact bX9_comesRound_40 C O X (lv_sub hl [] rfl) hF
  · rw [if_neg h_z] at hF
    exact bX9_comesRound_8 C O (hk_k0 : xk k0 = 9) X (lv_sub hl [0, 1, 2] rfl) hF
noncomputable def fX9_comesRound (N : Nat) (k0 : Nat) (x1 : Int32) (x2 : Int32) (S : gS) : Option (Int32 × gS) := fX9_comesRound_b0 N k0 x1 x2 S
theorem kX9_comesRound {l : Launch} {D : va_G} {g : Nat → Nat} {cI cB cZ cQ : ClassId} {Am : (Nat → Prop) → State → Heap → Prop} (O : xO g cI cB cZ cQ Am) (P : gAm Am) (N : Nat) (k0 : Nat) (x1 : Int32) (x2 : Int32) (hk_k0 : xk k0 = 9) (S : gS) (o : Int32 × gS) (hF : fX9_comesRound N k0 x1 x2 S = some o) : gM l yX9_comesRound cX9_comesRound 3 ((some .boolean)) 1 D (xtys cI cB cZ cQ) (xcell g cI cB cZ cQ) xord g Am [.ref (g k0), .int x1, .int x2] S (some (.int o.1)) o.2 :=
  gM_of O.1 P (by decide) (Nat.le_of_ble_eq_true rfl) (fun p e s m args below meth c ls C X hl => bX9_comesRound_0 C O hk_k0 X (lv_sub hl [0, 1, 2] rfl) hF)
-- X9.isHired
noncomputable def fX9_isHired_b28 (N : Nat) (S : gS) : Option (Int32 × gS) := some (0, S)
theorem bX9_isHired_28 {N : Nat} {S : gS} {H : Heap} {locs : List Loc} {ls : Array Slot} {o : Int32 × gS} (C : gC p s m args meth c cX9_isHired 3 RX9 ((some .boolean)) D (xtys cI cB cZ cQ) xord g Am) (O : xO g cI cB cZ cQ Am) (X : gX D (xcell g cI cB cZ cQ) xord g S s H locs) (hl : lv_has ls 3 []) (hF : fX9_isHired_b28 N S = some o) : W p l e (rmd 0) s m args below meth c H locs 0 0 (gE below args s D (xtys cI cB cZ cQ) (xcell g cI cB cZ cQ) xord g (some (.int o.1)) o.2) (F0 m 28 ls []) := by
  unfold fX9_isHired_b28 at hF
  refine lv_iconst (v := 0) C.1.1 C.1.2.1 dX9_isHired_28 (by decide) ?_
  cases hF
  exact g_zret (x := 0) C X (by decide) dX9_isHired_29
noncomputable def fX9_isHired_b22 (N : Nat) (r2 : Nat → Int32 → Int32 → gS → Option (Int32 × gS)) (k0 : Nat) (x1 : Int32) (x2 : Int32) (S : gS) : Option (Int32 × gS) := r2 k0 x1 ((x2 + 1 : Int32)) S
theorem bX9_isHired_22 {N : Nat} {r2 : Nat → Int32 → Int32 → gS → Option (Int32 × gS)} {k0 : Nat} {x1 : Int32} {x2 : Int32} {S : gS} {H : Heap} {locs : List Loc} {ls : Array Slot} {o : Int32 × gS} (C : gC p s m args meth c cX9_isHired 3 RX9 ((some .boolean)) D (xtys cI cB cZ cQ) xord g Am) (O : xO g cI cB cZ cQ Am) (K2 : ∀ (k0 : Nat) (x1 : Int32) (x2 : Int32) (hk_k0 : xk k0 = 9) (S : gS) (H : Heap) (locs : List Loc) (ls : Array Slot), gX D (xcell g cI cB cZ cQ) xord g S s H locs → lv_has ls 3 [(0, .ref (g k0)), (1, .int x1), (2, .int x2)] → r2 k0 x1 x2 S = some o → W p l e (rmd 0) s m args below meth c H locs 0 0 (gE below args s D (xtys cI cB cZ cQ) (xcell g cI cB cZ cQ) xord g (some (.int o.1)) o.2) (F0 m 2 ls [])) (hk_k0 : xk k0 = 9) (X : gX D (xcell g cI cB cZ cQ) xord g S s H locs) (hl : lv_has ls 3 [(0, .ref (g k0)), (1, .int x1), (2, .int x2)]) (hF : fX9_isHired_b22 N r2 k0 x1 x2 S = some o) : W p l e (rmd 0) s m args below meth c H locs 0 0 (gE below args s D (xtys cI cB cZ cQ) (xcell g cI cB cZ cQ) xord g (some (.int o.1)) o.2) (F0 m 22 ls []) := by
  unfold fX9_isHired_b22 at hF
  refine lv_iinc (v := (x2 + 1 : Int32)) (lv' := [(2, .int ((x2 + 1 : Int32))), (0, .ref (g k0)), (1, .int x1)]) C.1.1 C.1.2.1 dX9_isHired_22 hl (k := 2) rfl rfl (by decide) rfl (fun ls hl => ?_)
  refine lv_goto (tgt := 2) C.1.1 C.1.2.1 dX9_isHired_25 (by decide) ?_
  exact K2 _ _ _ (hk_k0 : xk k0 = 9) _ _ _ _ X (lv_sub hl [1, 2, 0] rfl) hF
noncomputable def fX9_isHired_b20 (N : Nat) (S : gS) : Option (Int32 × gS) := some (1, S)
theorem bX9_isHired_20 {N : Nat} {S : gS} {H : Heap} {locs : List Loc} {ls : Array Slot} {o : Int32 × gS} (C : gC p s m args meth c cX9_isHired 3 RX9 ((some .boolean)) D (xtys cI cB cZ cQ) xord g Am) (O : xO g cI cB cZ cQ Am) (X : gX D (xcell g cI cB cZ cQ) xord g S s H locs) (hl : lv_has ls 3 []) (hF : fX9_isHired_b20 N S = some o) : W p l e (rmd 0) s m args below meth c H locs 0 0 (gE below args s D (xtys cI cB cZ cQ) (xcell g cI cB cZ cQ) xord g (some (.int o.1)) o.2) (F0 m 20 ls []) := by
  unfold fX9_isHired_b20 at hF
  refine lv_iconst (v := 1) C.1.1 C.1.2.1 dX9_isHired_20 (by decide) ?_
  cases hF
  exact g_zret (x := 1) C X (by decide) dX9_isHired_21
noncomputable def fX9_isHired_b10 (N : Nat) (r2 : Nat → Int32 → Int32 → gS → Option (Int32 × gS)) (k0 : Nat) (x1 : Int32) (x2 : Int32) (S : gS) : Option (Int32 × gS) := chk (inb x2 6) (if (S (k0 + 8) (Int32.toNatClampNeg x2)) = x1 then fX9_isHired_b20 N S else fX9_isHired_b22 N r2 k0 x1 x2 S)
theorem bX9_isHired_10 {N : Nat} {r2 : Nat → Int32 → Int32 → gS → Option (Int32 × gS)} {k0 : Nat} {x1 : Int32} {x2 : Int32} {S : gS} {H : Heap} {locs : List Loc} {ls : Array Slot} {o : Int32 × gS} (C : gC p s m args meth c cX9_isHired 3 RX9 ((some .boolean)) D (xtys cI cB cZ cQ) xord g Am) (O : xO g cI cB cZ cQ Am) (K2 : ∀ (k0 : Nat) (x1 : Int32) (x2 : Int32) (hk_k0 : xk k0 = 9) (S : gS) (H : Heap) (locs : List Loc) (ls : Array Slot), gX D (xcell g cI cB cZ cQ) xord g S s H locs → lv_has ls 3 [(0, .ref (g k0)), (1, .int x1), (2, .int x2)] → r2 k0 x1 x2 S = some o → W p l e (rmd 0) s m args below meth c H locs 0 0 (gE below args s D (xtys cI cB cZ cQ) (xcell g cI cB cZ cQ) xord g (some (.int o.1)) o.2) (F0 m 2 ls [])) (hk_k0 : xk k0 = 9) (X : gX D (xcell g cI cB cZ cQ) xord g S s H locs) (hl : lv_has ls 3 [(0, .ref (g k0)), (1, .int x1), (2, .int x2)]) (hF : fX9_isHired_b10 N r2 k0 x1 x2 S = some o) : W p l e (rmd 0) s m args below meth c H locs 0 0 (gE below args s D (xtys cI cB cZ cQ) (xcell g cI cB cZ cQ) xord g (some (.int o.1)) o.2) (F0 m 10 ls []) := by
  unfold fX9_isHired_b10 at hF
  refine lv_aload_n C.1.1 C.1.2.1 dX9_isHired_10 rfl (lv_at hl 0 rfl) ?_
  refine xg_X9_41 C O X (k := k0) hk_k0 (j := k0 + 8) rfl dX9_isHired_11 ?_
  refine lv_iload_n C.1.1 C.1.2.1 dX9_isHired_14 rfl (lv_at hl 2 rfl) ?_
  obtain ⟨h_1, hF⟩ := chk_some hF
  refine x_rI C X (k := k0 + 8) (xs_9_9 hk_k0).1 (n := 6) (xs_9_9 hk_k0).2  (inb_vp h_1) rfl dX9_isHired_15 ?_
  refine lv_iload_n C.1.1 C.1.2.1 dX9_isHired_16 rfl (lv_at hl 1 rfl) ?_
  refine lv_icmp_ne (tgt := 22) C.1.1 C.1.2.1 dX9_isHired_17 (by decide) (fun h_z => ?_) (fun h_z => ?_)
  · rw [if_neg h_z] at hF
    exact bX9_isHired_22 C O K2 (hk_k0 : xk k0 = 9) X (lv_sub hl [0, 1, 2] rfl) hF
  · rw [if_pos h_z] at hF
    exact bX9_isHired_20 C O X (lv_sub hl [] rfl) hF
noncomputable def fX9_isHired_b2 (N : Nat) (r2 : Nat → Int32 → Int32 → gS → Option (Int32 × gS)) (k0 : Nat) (x1 : Int32) (x2 : Int32) (S : gS) : Option (Int32 × gS) := if (S k0 5) ≤ x2 then fX9_isHired_b28 N S else fX9_isHired_b10 N r2 k0 x1 x2 S
theorem bX9_isHired_2 {N : Nat} {r2 : Nat → Int32 → Int32 → gS → Option (Int32 × gS)} {k0 : Nat} {x1 : Int32} {x2 : Int32} {S : gS} {H : Heap} {locs : List Loc} {ls : Array Slot} {o : Int32 × gS} (C : gC p s m args meth c cX9_isHired 3 RX9 ((some .boolean)) D (xtys cI cB cZ cQ) xord g Am) (O : xO g cI cB cZ cQ Am) (K2 : ∀ (k0 : Nat) (x1 : Int32) (x2 : Int32) (hk_k0 : xk k0 = 9) (S : gS) (H : Heap) (locs : List Loc) (ls : Array Slot), gX D (xcell g cI cB cZ cQ) xord g S s H locs → lv_has ls 3 [(0, .ref (g k0)), (1, .int x1), (2, .int x2)] → r2 k0 x1 x2 S = some o → W p l e (rmd 0) s m args below meth c H locs 0 0 (gE below args s D (xtys cI cB cZ cQ) (xcell g cI cB cZ cQ) xord g (some (.int o.1)) o.2) (F0 m 2 ls [])) (hk_k0 : xk k0 = 9) (X : gX D (xcell g cI cB cZ cQ) xord g S s H locs) (hl : lv_has ls 3 [(0, .ref (g k0)), (1, .int x1), (2, .int x2)]) (hF : fX9_isHired_b2 N r2 k0 x1 x2 S = some o) : W p l e (rmd 0) s m args below meth c H locs 0 0 (gE below args s D (xtys cI cB cZ cQ) (xcell g cI cB cZ cQ) xord g (some (.int o.1)) o.2) (F0 m 2 ls []) := by
  unfold fX9_isHired_b2 at hF
  refine lv_iload_n C.1.1 C.1.2.1 dX9_isHired_2 rfl (lv_at hl 2 rfl) ?_
  refine lv_aload_n C.1.1 C.1.2.1 dX9_isHired_3 rfl (lv_at hl 0 rfl) ?_
  refine xg_X9_29 C O X (k := k0) hk_k0 dX9_isHired_4 ?_
  refine lv_icmp_ge (tgt := 28) C.1.1 C.1.2.1 dX9_isHired_7 (by decide) (fun h_z => ?_) (fun h_z => ?_)
  · rw [if_pos h_z] at hF
    exact bX9_isHired_28 C O X (lv_sub hl [] rfl) hF
  · rw [if_neg h_z] at hF
    exact bX9_isHired_10 C O K2 (hk_k0 : xk k0 = 9) X (lv_sub hl [0, 1, 2] rfl) hF
noncomputable def fX9_isHired_h2 (N : Nat) : Nat → Nat → Int32 → Int32 → gS → Option (Int32 × gS)
  | 0, _, _, _, _ => none
  | n + 1, k0, x1, x2, S => fX9_isHired_b2 N (fX9_isHired_h2 N n) k0 x1 x2 S
theorem hX9_isHired_2 {N : Nat} {o : Int32 × gS} (C : gC p s m args meth c cX9_isHired 3 RX9 ((some .boolean)) D (xtys cI cB cZ cQ) xord g Am) (O : xO g cI cB cZ cQ Am) : ∀ (n : Nat) (k0 : Nat) (x1 : Int32) (x2 : Int32) (hk_k0 : xk k0 = 9) (S : gS) (H : Heap) (locs : List Loc) (ls : Array Slot), gX D (xcell g cI cB cZ cQ) xord g S s H locs → lv_has ls 3 [(0, .ref (g k0)), (1, .int x1), (2, .int x2)] → fX9_isHired_h2 N n k0 x1 x2 S = some o → W p l e (rmd 0) s m args below meth c H locs 0 0 (gE below args s D (xtys cI cB cZ cQ) (xcell g cI cB cZ cQ) xord g (some (.int o.1)) o.2) (F0 m 2 ls []) := by
  intro n
  induction n with
  | zero =>
    intro k0 x1 x2 hk_k0 S H locs ls X hl hF
    exact absurd (show (none : Option (Int32 × gS)) = some o from hF) (by simp)
  | succ n ih =>
    intro k0 x1 x2 hk_k0 S H locs ls X hl hF
    have hF : fX9_isHired_b2 N (fX9_isHired_h2 N n) k0 x1 x2 S = some o := hF
    exact bX9_isHired_2 C O ih hk_k0 X hl hF
noncomputable def fX9_isHired_b0 (N : Nat) (k0 : Nat) (x1 : Int32) (S : gS) : Option (Int32 × gS) := fX9_isHired_h2 N N k0 x1 0 S
theorem bX9_isHired_0 {N : Nat} {k0 : Nat} {x1 : Int32} {S : gS} {H : Heap} {locs : List Loc} {ls : Array Slot} {o : Int32 × gS} (C : gC p s m args meth c cX9_isHired 3 RX9 ((some .boolean)) D (xtys cI cB cZ cQ) xord g Am) (O : xO g cI cB cZ cQ Am) (hk_k0 : xk k0 = 9) (X : gX D (xcell g cI cB cZ cQ) xord g S s H locs) (hl : lv_has ls 3 [(0, .ref (g k0)), (1, .int x1)]) (hF : fX9_isHired_b0 N k0 x1 S = some o) : W p l e (rmd 0) s m args below meth c H locs 0 0 (gE below args s D (xtys cI cB cZ cQ) (xcell g cI cB cZ cQ) xord g (some (.int o.1)) o.2) (F0 m 0 ls []) := by
  unfold fX9_isHired_b0 at hF
  refine lv_iconst (v := 0) C.1.1 C.1.2.1 dX9_isHired_0 (by decide) ?_
  refine lv_istore_n (lv' := [(2, .int 0), (0, .ref (g k0)), (1, .int x1)]) C.1.1 C.1.2.1 dX9_isHired_1 rfl hl (by decide) rfl (fun ls hl => ?_)
  exact hX9_isHired_2 C O N _ _ _ (hk_k0 : xk k0 = 9) _ _ _ _ X (lv_sub hl [1, 2, 0] rfl) hF
noncomputable def fX9_isHired (N : Nat) (k0 : Nat) (x1 : Int32) (S : gS) : Option (Int32 × gS) := fX9_isHired_b0 N k0 x1 S
theorem kX9_isHired {l : Launch} {D : va_G} {g : Nat → Nat} {cI cB cZ cQ : ClassId} {Am : (Nat → Prop) → State → Heap → Prop} (O : xO g cI cB cZ cQ Am) (P : gAm Am) (N : Nat) (k0 : Nat) (x1 : Int32) (hk_k0 : xk k0 = 9) (S : gS) (o : Int32 × gS) (hF : fX9_isHired N k0 x1 S = some o) : gM l yX9_isHired cX9_isHired 3 ((some .boolean)) 0 D (xtys cI cB cZ cQ) (xcell g cI cB cZ cQ) xord g Am [.ref (g k0), .int x1] S (some (.int o.1)) o.2 :=
  gM_of O.1 P (by decide) (Nat.le_of_ble_eq_true rfl) (fun p e s m args below meth c ls C X hl => bX9_isHired_0 C O hk_k0 X (lv_sub hl [0, 1] rfl) hF)
-- X10.begin
noncomputable def fX10_begin_b9 (N : Nat) (k1 : Nat) (k2 : Nat) (x3 : Int32) (S : gS) : Option (Int32 × gS) := chk (inb x3 6) (lt (sU S 51 0 (S (k1 + 5) (Int32.toNatClampNeg x3))) fun S1 => (chk (inb x3 6) (lt (sU S1 51 1 (S1 (k2 + 1) (Int32.toNatClampNeg x3))) fun S2 => (chk (inb x3 6) (lt (sU S2 51 2 (S2 (k2 + 2) (Int32.toNatClampNeg x3))) fun S3 => (chk (inb x3 6) (lt (sU S3 51 3 (S3 (k2 + 3) (Int32.toNatClampNeg x3))) fun S4 => (chk (inb x3 6) (lt (sU S4 51 4 (S4 (k2 + 4) (Int32.toNatClampNeg x3))) fun S5 => (lt (sU S5 51 5 (S5 k2 0)) fun S6 => (bnd (fX9_wetOf N k1 (S6 51 5) S6) fun q1 => (lt (sU q1.2 51 6 q1.1) fun S7 => (lt (sU S7 51 7 (S7 k2 1)) fun S8 => (some (0, S8)))))))))))))))
theorem bX10_begin_9 {N : Nat} {k1 : Nat} {k2 : Nat} {x3 : Int32} {S : gS} {H : Heap} {locs : List Loc} {ls : Array Slot} {o : Int32 × gS} (C : gC p s m args meth c cX10_begin 4 RX10 none D (xtys cI cB cZ cQ) xord g Am) (O : xO g cI cB cZ cQ Am) (hk_k1 : xk k1 = 9) (hk_k2 : xk k2 = 7) (X : gX D (xcell g cI cB cZ cQ) xord g S s H locs) (hl : lv_has ls 4 [(0, .ref (g 51)), (1, .ref (g k1)), (2, .ref (g k2)), (3, .int x3)]) (hF : fX10_begin_b9 N k1 k2 x3 S = some o) : W p l e (rmd 1) s m args below meth c H locs 0 0 (gE below args s D (xtys cI cB cZ cQ) (xcell g cI cB cZ cQ) xord g none o.2) (F0 m 9 ls []) := by
  unfold fX10_begin_b9 at hF
  refine lv_aload_n C.1.1 C.1.2.1 dX10_begin_9 rfl (lv_at hl 0 rfl) ?_
  refine lv_aload_n C.1.1 C.1.2.1 dX10_begin_10 rfl (lv_at hl 1 rfl) ?_
  refine xg_X10_42 C O X (k := k1) hk_k1 (j := k1 + 5) rfl dX10_begin_11 ?_
  refine lv_iload_n C.1.1 C.1.2.1 dX10_begin_14 rfl (lv_at hl 3 rfl) ?_
  obtain ⟨h_1, hF⟩ := chk_some hF
  refine x_rI C X (k := k1 + 5) (xs_9_6 hk_k1).1 (n := 6) (xs_9_6 hk_k1).2  (inb_vp h_1) rfl dX10_begin_15 ?_
  obtain ⟨S1, eS1, hF⟩ := lt_some hF
  refine xp_X10_9 C O X (k := 51) rfl eS1 dX10_begin_16 (fun H locs X => ?_)
  refine lv_aload_n C.1.1 C.1.2.1 dX10_begin_19 rfl (lv_at hl 0 rfl) ?_
  refine lv_aload_n C.1.1 C.1.2.1 dX10_begin_20 rfl (lv_at hl 2 rfl) ?_
  refine xg_X10_45 C O X (k := k2) hk_k2 (j := k2 + 1) rfl dX10_begin_21 ?_
  refine lv_iload_n C.1.1 C.1.2.1 dX10_begin_24 rfl (lv_at hl 3 rfl) ?_
  obtain ⟨h_2, hF⟩ := chk_some hF
  refine x_rI C X (k := k2 + 1) (xs_7_2 hk_k2).1 (n := 6) (xs_7_2 hk_k2).2  (inb_vp h_2) rfl dX10_begin_25 ?_
  obtain ⟨S2, eS2, hF⟩ := lt_some hF
  refine xp_X10_15 C O X (k := 51) rfl eS2 dX10_begin_26 (fun H locs X => ?_)
  refine lv_aload_n C.1.1 C.1.2.1 dX10_begin_29 rfl (lv_at hl 0 rfl) ?_
  refine lv_aload_n C.1.1 C.1.2.1 dX10_begin_30 rfl (lv_at hl 2 rfl) ?_
  refine xg_X10_49 C O X (k := k2) hk_k2 (j := k2 + 2) rfl dX10_begin_31 ?_
  refine lv_iload_n C.1.1 C.1.2.1 dX10_begin_34 rfl (lv_at hl 3 rfl) ?_
  obtain ⟨h_3, hF⟩ := chk_some hF
  refine x_rI C X (k := k2 + 2) (xs_7_3 hk_k2).1 (n := 6) (xs_7_3 hk_k2).2  (inb_vp h_3) rfl dX10_begin_35 ?_
  obtain ⟨S3, eS3, hF⟩ := lt_some hF
  refine xp_X10_18 C O X (k := 51) rfl eS3 dX10_begin_36 (fun H locs X => ?_)
  refine lv_aload_n C.1.1 C.1.2.1 dX10_begin_39 rfl (lv_at hl 0 rfl) ?_
  refine lv_aload_n C.1.1 C.1.2.1 dX10_begin_40 rfl (lv_at hl 2 rfl) ?_
  refine xg_X10_51 C O X (k := k2) hk_k2 (j := k2 + 3) rfl dX10_begin_41 ?_
  refine lv_iload_n C.1.1 C.1.2.1 dX10_begin_44 rfl (lv_at hl 3 rfl) ?_
  obtain ⟨h_4, hF⟩ := chk_some hF
  refine x_rI C X (k := k2 + 3) (xs_7_4 hk_k2).1 (n := 6) (xs_7_4 hk_k2).2  (inb_vp h_4) rfl dX10_begin_45 ?_
  obtain ⟨S4, eS4, hF⟩ := lt_some hF
  refine xp_X10_21 C O X (k := 51) rfl eS4 dX10_begin_46 (fun H locs X => ?_)
  refine lv_aload_n C.1.1 C.1.2.1 dX10_begin_49 rfl (lv_at hl 0 rfl) ?_
  refine lv_aload_n C.1.1 C.1.2.1 dX10_begin_50 rfl (lv_at hl 2 rfl) ?_
  refine xg_X10_53 C O X (k := k2) hk_k2 (j := k2 + 4) rfl dX10_begin_51 ?_
  refine lv_iload_n C.1.1 C.1.2.1 dX10_begin_54 rfl (lv_at hl 3 rfl) ?_
  obtain ⟨h_5, hF⟩ := chk_some hF
  refine x_rI C X (k := k2 + 4) (xs_7_5 hk_k2).1 (n := 6) (xs_7_5 hk_k2).2  (inb_vp h_5) rfl dX10_begin_55 ?_
  obtain ⟨S5, eS5, hF⟩ := lt_some hF
  refine xp_X10_24 C O X (k := 51) rfl eS5 dX10_begin_56 (fun H locs X => ?_)
  refine lv_aload_n C.1.1 C.1.2.1 dX10_begin_59 rfl (lv_at hl 0 rfl) ?_
  refine lv_aload_n C.1.1 C.1.2.1 dX10_begin_60 rfl (lv_at hl 2 rfl) ?_
  refine xg_X10_55 C O X (k := k2) hk_k2 dX10_begin_61 ?_
  obtain ⟨S6, eS6, hF⟩ := lt_some hF
  refine xp_X10_27 C O X (k := 51) rfl eS6 dX10_begin_64 (fun H locs X => ?_)
  refine lv_aload_n C.1.1 C.1.2.1 dX10_begin_67 rfl (lv_at hl 0 rfl) ?_
  refine lv_aload_n C.1.1 C.1.2.1 dX10_begin_68 rfl (lv_at hl 1 rfl) ?_
  refine lv_aload_n C.1.1 C.1.2.1 dX10_begin_69 rfl (lv_at hl 0 rfl) ?_
  refine xg_X10_27 C O X (k := 51) rfl dX10_begin_70 ?_
  obtain ⟨q1, hq1, hF⟩ := bnd_some hF
  refine x_callVi C X (k := k1) xv_X10_56 hk_k1 rfl rfl (by decide) (kX9_wetOf O C.2.2.2.2.1 N k1 (S6 51 5) (hk_k1 : xk k1 = 9) S6 q1 hq1) (Nat.le_of_ble_eq_true rfl) (Nat.le_of_ble_eq_true rfl) (Nat.le_of_ble_eq_true rfl) (Nat.le_of_ble_eq_true rfl) rfl hl.1 rfl (Nat.le_of_ble_eq_true rfl) dX10_begin_73 (fun H locs X => ?_)
  obtain ⟨S7, eS7, hF⟩ := lt_some hF
  refine xp_X10_30 C O X (k := 51) rfl eS7 dX10_begin_76 (fun H locs X => ?_)
  refine lv_aload_n C.1.1 C.1.2.1 dX10_begin_79 rfl (lv_at hl 0 rfl) ?_
  refine lv_aload_n C.1.1 C.1.2.1 dX10_begin_80 rfl (lv_at hl 2 rfl) ?_
  refine xg_X10_60 C O X (k := k2) hk_k2 dX10_begin_81 ?_
  obtain ⟨S8, eS8, hF⟩ := lt_some hF
  refine xp_X10_33 C O X (k := 51) rfl eS8 dX10_begin_84 (fun H locs X => ?_)
  cases hF
  exact g_vret C X dX10_begin_87
noncomputable def fX10_begin_b8 (N : Nat) (S : gS) : Option (Int32 × gS) := some (0, S)
theorem bX10_begin_8 {N : Nat} {S : gS} {H : Heap} {locs : List Loc} {ls : Array Slot} {o : Int32 × gS} (C : gC p s m args meth c cX10_begin 4 RX10 none D (xtys cI cB cZ cQ) xord g Am) (O : xO g cI cB cZ cQ Am) (X : gX D (xcell g cI cB cZ cQ) xord g S s H locs) (hl : lv_has ls 4 []) (hF : fX10_begin_b8 N S = some o) : W p l e (rmd 1) s m args below meth c H locs 0 0 (gE below args s D (xtys cI cB cZ cQ) (xcell g cI cB cZ cQ) xord g none o.2) (F0 m 8 ls []) := by
  unfold fX10_begin_b8 at hF
  cases hF
  exact g_vret C X dX10_begin_8
noncomputable def fX10_begin_b0 (N : Nat) (k1 : Nat) (k2 : Nat) (x3 : Int32) (S : gS) : Option (Int32 × gS) := bnd (fX9_isGuild N k1 x3 S) fun q1 => (if q1.1 = 0 then fX10_begin_b8 N q1.2 else fX10_begin_b9 N k1 k2 x3 q1.2)
theorem bX10_begin_0 {N : Nat} {k1 : Nat} {k2 : Nat} {x3 : Int32} {S : gS} {H : Heap} {locs : List Loc} {ls : Array Slot} {o : Int32 × gS} (C : gC p s m args meth c cX10_begin 4 RX10 none D (xtys cI cB cZ cQ) xord g Am) (O : xO g cI cB cZ cQ Am) (hk_k1 : xk k1 = 9) (hk_k2 : xk k2 = 7) (X : gX D (xcell g cI cB cZ cQ) xord g S s H locs) (hl : lv_has ls 4 [(0, .ref (g 51)), (1, .ref (g k1)), (2, .ref (g k2)), (3, .int x3)]) (hF : fX10_begin_b0 N k1 k2 x3 S = some o) : W p l e (rmd 1) s m args below meth c H locs 0 0 (gE below args s D (xtys cI cB cZ cQ) (xcell g cI cB cZ cQ) xord g none o.2) (F0 m 0 ls []) := by
  unfold fX10_begin_b0 at hF
  refine lv_aload_n C.1.1 C.1.2.1 dX10_begin_0 rfl (lv_at hl 1 rfl) ?_
  refine lv_iload_n C.1.1 C.1.2.1 dX10_begin_1 rfl (lv_at hl 3 rfl) ?_
  obtain ⟨q1, hq1, hF⟩ := bnd_some hF
  refine x_callVi C X (k := k1) xv_X10_36 hk_k1 rfl rfl (by decide) (kX9_isGuild O C.2.2.2.2.1 N k1 x3 (hk_k1 : xk k1 = 9) S q1 hq1) (Nat.le_of_ble_eq_true rfl) (Nat.le_of_ble_eq_true rfl) (Nat.le_of_ble_eq_true rfl) (Nat.le_of_ble_eq_true rfl) rfl hl.1 rfl (Nat.le_of_ble_eq_true rfl) dX10_begin_2 (fun H locs X => ?_)
  refine lv_if_ne (tgt := 9) C.1.1 C.1.2.1 dX10_begin_5 (by decide) (fun h_z => ?_) (fun h_z => ?_)
  · rw [if_neg h_z] at hF
    exact bX10_begin_9 C O (hk_k1 : xk k1 = 9) (hk_k2 : xk k2 = 7) X (lv_sub hl [0, 1, 2, 3] rfl) hF
  · rw [if_pos h_z] at hF
    exact bX10_begin_8 C O X (lv_sub hl [] rfl) hF
noncomputable def fX10_begin (N : Nat) (k1 : Nat) (k2 : Nat) (x3 : Int32) (S : gS) : Option (Int32 × gS) := fX10_begin_b0 N k1 k2 x3 S
theorem kX10_begin {l : Launch} {D : va_G} {g : Nat → Nat} {cI cB cZ cQ : ClassId} {Am : (Nat → Prop) → State → Heap → Prop} (O : xO g cI cB cZ cQ Am) (P : gAm Am) (N : Nat) (k1 : Nat) (k2 : Nat) (x3 : Int32) (hk_k1 : xk k1 = 9) (hk_k2 : xk k2 = 7) (S : gS) (o : Int32 × gS) (hF : fX10_begin N k1 k2 x3 S = some o) : gM l yX10_begin cX10_begin 4 none 1 D (xtys cI cB cZ cQ) (xcell g cI cB cZ cQ) xord g Am [.ref (g 51), .ref (g k1), .ref (g k2), .int x3] S none o.2 :=
  gM_of O.1 P (by decide) (Nat.le_of_ble_eq_true rfl) (fun p e s m args below meth c ls C X hl => bX10_begin_0 C O hk_k1 hk_k2 X (lv_sub hl [0, 1, 2, 3] rfl) hF)
-- X10.end
noncomputable def fX10_end_b11 (N : Nat) (k1 : Nat) (x2 : Int32) (S : gS) : Option (Int32 × gS) := chk (inb x2 6) (lt (sU S (k1 + 1) (Int32.toNatClampNeg x2) (S 51 1)) fun S1 => (chk (inb x2 6) (lt (sU S1 (k1 + 2) (Int32.toNatClampNeg x2) (S1 51 2)) fun S2 => (chk (inb x2 6) (lt (sU S2 (k1 + 3) (Int32.toNatClampNeg x2) (S2 51 3)) fun S3 => (chk (inb x2 6) (lt (sU S3 (k1 + 4) (Int32.toNatClampNeg x2) (S3 51 4)) fun S4 => (some (0, S4)))))))))
theorem bX10_end_11 {N : Nat} {k1 : Nat} {x2 : Int32} {S : gS} {H : Heap} {locs : List Loc} {ls : Array Slot} {o : Int32 × gS} (C : gC p s m args meth c cX10_end 3 RX10 none D (xtys cI cB cZ cQ) xord g Am) (O : xO g cI cB cZ cQ Am) (hk_k1 : xk k1 = 7) (X : gX D (xcell g cI cB cZ cQ) xord g S s H locs) (hl : lv_has ls 3 [(0, .ref (g 51)), (1, .ref (g k1)), (2, .int x2)]) (hF : fX10_end_b11 N k1 x2 S = some o) : W p l e (rmd 0) s m args below meth c H locs 0 0 (gE below args s D (xtys cI cB cZ cQ) (xcell g cI cB cZ cQ) xord g none o.2) (F0 m 11 ls []) := by
  unfold fX10_end_b11 at hF
  refine lv_aload_n C.1.1 C.1.2.1 dX10_end_11 rfl (lv_at hl 1 rfl) ?_
  refine xg_X10_45 C O X (k := k1) hk_k1 (j := k1 + 1) rfl dX10_end_12 ?_
  refine lv_iload_n C.1.1 C.1.2.1 dX10_end_15 rfl (lv_at hl 2 rfl) ?_
  refine lv_aload_n C.1.1 C.1.2.1 dX10_end_16 rfl (lv_at hl 0 rfl) ?_
  refine xg_X10_15 C O X (k := 51) rfl dX10_end_17 ?_
  obtain ⟨h_1, hF⟩ := chk_some hF
  obtain ⟨S1, eS1, hF⟩ := lt_some hF
  refine x_wI C O X (k := k1 + 1) (xs_7_2 hk_k1).1 (n := 6) (xs_7_2 hk_k1).2  (inb_vp h_1) rfl eS1 dX10_end_20 (fun H locs X => ?_)
  refine lv_aload_n C.1.1 C.1.2.1 dX10_end_21 rfl (lv_at hl 1 rfl) ?_
  refine xg_X10_49 C O X (k := k1) hk_k1 (j := k1 + 2) rfl dX10_end_22 ?_
  refine lv_iload_n C.1.1 C.1.2.1 dX10_end_25 rfl (lv_at hl 2 rfl) ?_
  refine lv_aload_n C.1.1 C.1.2.1 dX10_end_26 rfl (lv_at hl 0 rfl) ?_
  refine xg_X10_18 C O X (k := 51) rfl dX10_end_27 ?_
  obtain ⟨h_2, hF⟩ := chk_some hF
  obtain ⟨S2, eS2, hF⟩ := lt_some hF
  refine x_wI C O X (k := k1 + 2) (xs_7_3 hk_k1).1 (n := 6) (xs_7_3 hk_k1).2  (inb_vp h_2) rfl eS2 dX10_end_30 (fun H locs X => ?_)
  refine lv_aload_n C.1.1 C.1.2.1 dX10_end_31 rfl (lv_at hl 1 rfl) ?_
  refine xg_X10_51 C O X (k := k1) hk_k1 (j := k1 + 3) rfl dX10_end_32 ?_
  refine lv_iload_n C.1.1 C.1.2.1 dX10_end_35 rfl (lv_at hl 2 rfl) ?_
  refine lv_aload_n C.1.1 C.1.2.1 dX10_end_36 rfl (lv_at hl 0 rfl) ?_
  refine xg_X10_21 C O X (k := 51) rfl dX10_end_37 ?_
  obtain ⟨h_3, hF⟩ := chk_some hF
  obtain ⟨S3, eS3, hF⟩ := lt_some hF
  refine x_wI C O X (k := k1 + 3) (xs_7_4 hk_k1).1 (n := 6) (xs_7_4 hk_k1).2  (inb_vp h_3) rfl eS3 dX10_end_40 (fun H locs X => ?_)
  refine lv_aload_n C.1.1 C.1.2.1 dX10_end_41 rfl (lv_at hl 1 rfl) ?_
  refine xg_X10_53 C O X (k := k1) hk_k1 (j := k1 + 4) rfl dX10_end_42 ?_
  refine lv_iload_n C.1.1 C.1.2.1 dX10_end_45 rfl (lv_at hl 2 rfl) ?_
  refine lv_aload_n C.1.1 C.1.2.1 dX10_end_46 rfl (lv_at hl 0 rfl) ?_
  refine xg_X10_24 C O X (k := 51) rfl dX10_end_47 ?_
  obtain ⟨h_4, hF⟩ := chk_some hF
  obtain ⟨S4, eS4, hF⟩ := lt_some hF
  refine x_wI C O X (k := k1 + 4) (xs_7_5 hk_k1).1 (n := 6) (xs_7_5 hk_k1).2  (inb_vp h_4) rfl eS4 dX10_end_50 (fun H locs X => ?_)
  cases hF
  exact g_vret C X dX10_end_51
noncomputable def fX10_end_b10 (N : Nat) (S : gS) : Option (Int32 × gS) := some (0, S)
theorem bX10_end_10 {N : Nat} {S : gS} {H : Heap} {locs : List Loc} {ls : Array Slot} {o : Int32 × gS} (C : gC p s m args meth c cX10_end 3 RX10 none D (xtys cI cB cZ cQ) xord g Am) (O : xO g cI cB cZ cQ Am) (X : gX D (xcell g cI cB cZ cQ) xord g S s H locs) (hl : lv_has ls 3 []) (hF : fX10_end_b10 N S = some o) : W p l e (rmd 0) s m args below meth c H locs 0 0 (gE below args s D (xtys cI cB cZ cQ) (xcell g cI cB cZ cQ) xord g none o.2) (F0 m 10 ls []) := by
  unfold fX10_end_b10 at hF
  cases hF
  exact g_vret C X dX10_end_10
noncomputable def fX10_end_b4 (N : Nat) (k1 : Nat) (x2 : Int32) (S : gS) : Option (Int32 × gS) := if x2 < 6 then fX10_end_b11 N k1 x2 S else fX10_end_b10 N S
theorem bX10_end_4 {N : Nat} {k1 : Nat} {x2 : Int32} {S : gS} {H : Heap} {locs : List Loc} {ls : Array Slot} {o : Int32 × gS} (C : gC p s m args meth c cX10_end 3 RX10 none D (xtys cI cB cZ cQ) xord g Am) (O : xO g cI cB cZ cQ Am) (hk_k1 : xk k1 = 7) (X : gX D (xcell g cI cB cZ cQ) xord g S s H locs) (hl : lv_has ls 3 [(0, .ref (g 51)), (1, .ref (g k1)), (2, .int x2)]) (hF : fX10_end_b4 N k1 x2 S = some o) : W p l e (rmd 0) s m args below meth c H locs 0 0 (gE below args s D (xtys cI cB cZ cQ) (xcell g cI cB cZ cQ) xord g none o.2) (F0 m 4 ls []) := by
  unfold fX10_end_b4 at hF
  refine lv_iload_n C.1.1 C.1.2.1 dX10_end_4 rfl (lv_at hl 2 rfl) ?_
  refine lv_bipush (v := 6) C.1.1 C.1.2.1 dX10_end_5 (by decide) ?_
  refine lv_icmp_lt (tgt := 11) C.1.1 C.1.2.1 dX10_end_7 (by decide) (fun h_z => ?_) (fun h_z => ?_)
  · rw [if_pos h_z] at hF
    exact bX10_end_11 C O (hk_k1 : xk k1 = 7) X (lv_sub hl [0, 1, 2] rfl) hF
  · rw [if_neg h_z] at hF
    exact bX10_end_10 C O X (lv_sub hl [] rfl) hF
noncomputable def fX10_end_b0 (N : Nat) (k1 : Nat) (x2 : Int32) (S : gS) : Option (Int32 × gS) := if x2 < 0 then fX10_end_b10 N S else fX10_end_b4 N k1 x2 S
theorem bX10_end_0 {N : Nat} {k1 : Nat} {x2 : Int32} {S : gS} {H : Heap} {locs : List Loc} {ls : Array Slot} {o : Int32 × gS} (C : gC p s m args meth c cX10_end 3 RX10 none D (xtys cI cB cZ cQ) xord g Am) (O : xO g cI cB cZ cQ Am) (hk_k1 : xk k1 = 7) (X : gX D (xcell g cI cB cZ cQ) xord g S s H locs) (hl : lv_has ls 3 [(0, .ref (g 51)), (1, .ref (g k1)), (2, .int x2)]) (hF : fX10_end_b0 N k1 x2 S = some o) : W p l e (rmd 0) s m args below meth c H locs 0 0 (gE below args s D (xtys cI cB cZ cQ) (xcell g cI cB cZ cQ) xord g none o.2) (F0 m 0 ls []) := by
  unfold fX10_end_b0 at hF
  refine lv_iload_n C.1.1 C.1.2.1 dX10_end_0 rfl (lv_at hl 2 rfl) ?_
  refine lv_if_lt (tgt := 10) C.1.1 C.1.2.1 dX10_end_1 (by decide) (fun h_z => ?_) (fun h_z => ?_)
  · rw [if_pos h_z] at hF
    exact bX10_end_10 C O X (lv_sub hl [] rfl) hF
  · rw [if_neg h_z] at hF
    exact bX10_end_4 C O (hk_k1 : xk k1 = 7) X (lv_sub hl [0, 1, 2] rfl) hF
noncomputable def fX10_end (N : Nat) (k1 : Nat) (x2 : Int32) (S : gS) : Option (Int32 × gS) := fX10_end_b0 N k1 x2 S
theorem kX10_end {l : Launch} {D : va_G} {g : Nat → Nat} {cI cB cZ cQ : ClassId} {Am : (Nat → Prop) → State → Heap → Prop} (O : xO g cI cB cZ cQ Am) (P : gAm Am) (N : Nat) (k1 : Nat) (x2 : Int32) (hk_k1 : xk k1 = 7) (S : gS) (o : Int32 × gS) (hF : fX10_end N k1 x2 S = some o) : gM l yX10_end cX10_end 3 none 0 D (xtys cI cB cZ cQ) (xcell g cI cB cZ cQ) xord g Am [.ref (g 51), .ref (g k1), .int x2] S none o.2 :=
  gM_of O.1 P (by decide) (Nat.le_of_ble_eq_true rfl) (fun p e s m args below meth c ls C X hl => bX10_end_0 C O hk_k1 X (lv_sub hl [0, 1, 2] rfl) hF)
-- X10.repent
noncomputable def fX10_repent_b0 (N : Nat) (S : gS) : Option (Int32 × gS) := lt (sU S 51 2 (((S 51 2) - 50 : Int32))) fun S1 => (lt (sU S1 51 1 (((S1 51 1) / 2 : Int32))) fun S2 => (some (0, S2)))
theorem bX10_repent_0 {N : Nat} {S : gS} {H : Heap} {locs : List Loc} {ls : Array Slot} {o : Int32 × gS} (C : gC p s m args meth c cX10_repent 1 RX10 none D (xtys cI cB cZ cQ) xord g Am) (O : xO g cI cB cZ cQ Am) (X : gX D (xcell g cI cB cZ cQ) xord g S s H locs) (hl : lv_has ls 1 [(0, .ref (g 51))]) (hF : fX10_repent_b0 N S = some o) : W p l e (rmd 0) s m args below meth c H locs 0 0 (gE below args s D (xtys cI cB cZ cQ) (xcell g cI cB cZ cQ) xord g none o.2) (F0 m 0 ls []) := by
  unfold fX10_repent_b0 at hF
  refine lv_aload_n C.1.1 C.1.2.1 dX10_repent_0 rfl (lv_at hl 0 rfl) ?_
  refine lv_dup C.1.1 C.1.2.1 dX10_repent_1 rfl ?_
  refine xg_X10_18 C O X (k := 51) rfl dX10_repent_2 ?_
  refine lv_bipush (v := 50) C.1.1 C.1.2.1 dX10_repent_5 (by decide) ?_
  refine lv_isub C.1.1 C.1.2.1 dX10_repent_7 ?_
  obtain ⟨S1, eS1, hF⟩ := lt_some hF
  refine xp_X10_18 C O X (k := 51) rfl eS1 dX10_repent_8 (fun H locs X => ?_)
  refine lv_aload_n C.1.1 C.1.2.1 dX10_repent_11 rfl (lv_at hl 0 rfl) ?_
  refine lv_dup C.1.1 C.1.2.1 dX10_repent_12 rfl ?_
  refine xg_X10_15 C O X (k := 51) rfl dX10_repent_13 ?_
  refine lv_iconst (v := 2) C.1.1 C.1.2.1 dX10_repent_16 (by decide) ?_
  refine lv_idiv C.1.1 C.1.2.1 dX10_repent_17 (by decide) ?_
  obtain ⟨S2, eS2, hF⟩ := lt_some hF
  refine xp_X10_15 C O X (k := 51) rfl eS2 dX10_repent_18 (fun H locs X => ?_)
  cases hF
  exact g_vret C X dX10_repent_21
noncomputable def fX10_repent (N : Nat) (S : gS) : Option (Int32 × gS) := fX10_repent_b0 N S
theorem kX10_repent {l : Launch} {D : va_G} {g : Nat → Nat} {cI cB cZ cQ : ClassId} {Am : (Nat → Prop) → State → Heap → Prop} (O : xO g cI cB cZ cQ Am) (P : gAm Am) (N : Nat) (S : gS) (o : Int32 × gS) (hF : fX10_repent N S = some o) : gM l yX10_repent cX10_repent 1 none 0 D (xtys cI cB cZ cQ) (xcell g cI cB cZ cQ) xord g Am [.ref (g 51)] S none o.2 :=
  gM_of O.1 P (by decide) (Nat.le_of_ble_eq_true rfl) (fun p e s m args below meth c ls C X hl => bX10_repent_0 C O X (lv_sub hl [0] rfl) hF)
-- X10.valueOf
noncomputable def fX10_valueOf_b116 (N : Nat) (S : gS) : Option (Int32 × gS) := some (S 51 0, S)
theorem bX10_valueOf_116 {N : Nat} {S : gS} {H : Heap} {locs : List Loc} {ls : Array Slot} {o : Int32 × gS} (C : gC p s m args meth c cX10_valueOf 4 RX10 ((some .int)) D (xtys cI cB cZ cQ) xord g Am) (O : xO g cI cB cZ cQ Am) (X : gX D (xcell g cI cB cZ cQ) xord g S s H locs) (hl : lv_has ls 4 [(0, .ref (g 51))]) (hF : fX10_valueOf_b116 N S = some o) : W p l e (rmd 0) s m args below meth c H locs 0 0 (gE below args s D (xtys cI cB cZ cQ) (xcell g cI cB cZ cQ) xord g (some (.int o.1)) o.2) (F0 m 116 ls []) := by
  unfold fX10_valueOf_b116 at hF
  refine lv_aload_n C.1.1 C.1.2.1 dX10_valueOf_116 rfl (lv_at hl 0 rfl) ?_
  refine xg_X10_9 C O X (k := 51) rfl dX10_valueOf_117 ?_
  cases hF
  exact g_iret C X dX10_valueOf_120
noncomputable def fX10_valueOf_b111 (N : Nat) (S : gS) : Option (Int32 × gS) := some (S 51 5, S)
theorem bX10_valueOf_111 {N : Nat} {S : gS} {H : Heap} {locs : List Loc} {ls : Array Slot} {o : Int32 × gS} (C : gC p s m args meth c cX10_valueOf 4 RX10 ((some .int)) D (xtys cI cB cZ cQ) xord g Am) (O : xO g cI cB cZ cQ Am) (X : gX D (xcell g cI cB cZ cQ) xord g S s H locs) (hl : lv_has ls 4 [(0, .ref (g 51))]) (hF : fX10_valueOf_b111 N S = some o) : W p l e (rmd 0) s m args below meth c H locs 0 0 (gE below args s D (xtys cI cB cZ cQ) (xcell g cI cB cZ cQ) xord g (some (.int o.1)) o.2) (F0 m 111 ls []) := by
  unfold fX10_valueOf_b111 at hF
  refine lv_aload_n C.1.1 C.1.2.1 dX10_valueOf_111 rfl (lv_at hl 0 rfl) ?_
  refine xg_X10_27 C O X (k := 51) rfl dX10_valueOf_112 ?_
  cases hF
  exact g_iret C X dX10_valueOf_115
noncomputable def fX10_valueOf_b106 (N : Nat) (S : gS) : Option (Int32 × gS) := some (S 51 6, S)
theorem bX10_valueOf_106 {N : Nat} {S : gS} {H : Heap} {locs : List Loc} {ls : Array Slot} {o : Int32 × gS} (C : gC p s m args meth c cX10_valueOf 4 RX10 ((some .int)) D (xtys cI cB cZ cQ) xord g Am) (O : xO g cI cB cZ cQ Am) (X : gX D (xcell g cI cB cZ cQ) xord g S s H locs) (hl : lv_has ls 4 [(0, .ref (g 51))]) (hF : fX10_valueOf_b106 N S = some o) : W p l e (rmd 0) s m args below meth c H locs 0 0 (gE below args s D (xtys cI cB cZ cQ) (xcell g cI cB cZ cQ) xord g (some (.int o.1)) o.2) (F0 m 106 ls []) := by
  unfold fX10_valueOf_b106 at hF
  refine lv_aload_n C.1.1 C.1.2.1 dX10_valueOf_106 rfl (lv_at hl 0 rfl) ?_
  refine xg_X10_30 C O X (k := 51) rfl dX10_valueOf_107 ?_
  cases hF
  exact g_iret C X dX10_valueOf_110
noncomputable def fX10_valueOf_b105 (N : Nat) (t0 : Int32) (S : gS) : Option (Int32 × gS) := some (t0, S)
theorem bX10_valueOf_105 {N : Nat} {t0 : Int32} {S : gS} {H : Heap} {locs : List Loc} {ls : Array Slot} {o : Int32 × gS} (C : gC p s m args meth c cX10_valueOf 4 RX10 ((some .int)) D (xtys cI cB cZ cQ) xord g Am) (O : xO g cI cB cZ cQ Am) (X : gX D (xcell g cI cB cZ cQ) xord g S s H locs) (hl : lv_has ls 4 []) (hF : fX10_valueOf_b105 N t0 S = some o) : W p l e (rmd 0) s m args below meth c H locs 0 0 (gE below args s D (xtys cI cB cZ cQ) (xcell g cI cB cZ cQ) xord g (some (.int o.1)) o.2) (F0 m 105 ls [.int t0]) := by
  unfold fX10_valueOf_b105 at hF
  cases hF
  exact g_iret C X dX10_valueOf_105
noncomputable def fX10_valueOf_b104 (N : Nat) (S : gS) : Option (Int32 × gS) := fX10_valueOf_b105 N 0 S
theorem bX10_valueOf_104 {N : Nat} {S : gS} {H : Heap} {locs : List Loc} {ls : Array Slot} {o : Int32 × gS} (C : gC p s m args meth c cX10_valueOf 4 RX10 ((some .int)) D (xtys cI cB cZ cQ) xord g Am) (O : xO g cI cB cZ cQ Am) (X : gX D (xcell g cI cB cZ cQ) xord g S s H locs) (hl : lv_has ls 4 []) (hF : fX10_valueOf_b104 N S = some o) : W p l e (rmd 0) s m args below meth c H locs 0 0 (gE below args s D (xtys cI cB cZ cQ) (xcell g cI cB cZ cQ) xord g (some (.int o.1)) o.2) (F0 m 104 ls []) := by
  unfold fX10_valueOf_b104 at hF
  refine lv_iconst (v := 0) C.1.1 C.1.2.1 dX10_valueOf_104 (by decide) ?_
  exact bX10_valueOf_105 C O X (lv_sub hl [] rfl) hF
noncomputable def fX10_valueOf_b92 (N : Nat) (k1 : Nat) (S : gS) : Option (Int32 × gS) := chk (inb (S 51 4) 8) (fX10_valueOf_b105 N (S (k1 + 3) (Int32.toNatClampNeg (S 51 4))) S)
theorem bX10_valueOf_92 {N : Nat} {k1 : Nat} {S : gS} {H : Heap} {locs : List Loc} {ls : Array Slot} {o : Int32 × gS} (C : gC p s m args meth c cX10_valueOf 4 RX10 ((some .int)) D (xtys cI cB cZ cQ) xord g Am) (O : xO g cI cB cZ cQ Am) (hk_k1 : xk k1 = 9) (X : gX D (xcell g cI cB cZ cQ) xord g S s H locs) (hl : lv_has ls 4 [(0, .ref (g 51)), (1, .ref (g k1))]) (hF : fX10_valueOf_b92 N k1 S = some o) : W p l e (rmd 0) s m args below meth c H locs 0 0 (gE below args s D (xtys cI cB cZ cQ) (xcell g cI cB cZ cQ) xord g (some (.int o.1)) o.2) (F0 m 92 ls []) := by
  unfold fX10_valueOf_b92 at hF
  refine lv_aload_n C.1.1 C.1.2.1 dX10_valueOf_92 rfl (lv_at hl 1 rfl) ?_
  refine xg_X10_108 C O X (k := k1) hk_k1 (j := k1 + 3) rfl dX10_valueOf_93 ?_
  refine lv_aload_n C.1.1 C.1.2.1 dX10_valueOf_96 rfl (lv_at hl 0 rfl) ?_
  refine xg_X10_24 C O X (k := 51) rfl dX10_valueOf_97 ?_
  obtain ⟨h_1, hF⟩ := chk_some hF
  refine x_rI C X (k := k1 + 3) (xs_9_3 hk_k1).1 (n := 8) (xs_9_3 hk_k1).2  (inb_vp h_1) rfl dX10_valueOf_100 ?_
  refine lv_goto (tgt := 105) C.1.1 C.1.2.1 dX10_valueOf_101 (by decide) ?_
  exact bX10_valueOf_105 C O X (lv_sub hl [] rfl) hF
noncomputable def fX10_valueOf_b88 (N : Nat) (k1 : Nat) (x3 : Int32) (S : gS) : Option (Int32 × gS) := if x3 = 0 then fX10_valueOf_b104 N S else fX10_valueOf_b92 N k1 S
theorem bX10_valueOf_88 {N : Nat} {k1 : Nat} {x3 : Int32} {S : gS} {H : Heap} {locs : List Loc} {ls : Array Slot} {o : Int32 × gS} (C : gC p s m args meth c cX10_valueOf 4 RX10 ((some .int)) D (xtys cI cB cZ cQ) xord g Am) (O : xO g cI cB cZ cQ Am) (hk_k1 : xk k1 = 9) (X : gX D (xcell g cI cB cZ cQ) xord g S s H locs) (hl : lv_has ls 4 [(0, .ref (g 51)), (1, .ref (g k1)), (3, .int x3)]) (hF : fX10_valueOf_b88 N k1 x3 S = some o) : W p l e (rmd 0) s m args below meth c H locs 0 0 (gE below args s D (xtys cI cB cZ cQ) (xcell g cI cB cZ cQ) xord g (some (.int o.1)) o.2) (F0 m 88 ls []) := by
  unfold fX10_valueOf_b88 at hF
  refine lv_iload_n C.1.1 C.1.2.1 dX10_valueOf_88 rfl (lv_at hl 2 rfl) ?_
  refine lv_if_eq (tgt := 104) C.1.1 C.1.2.1 dX10_valueOf_89 (by decide) (fun h_z => ?_) (fun h_z => ?_)
  · rw [if_pos h_z] at hF
    exact bX10_valueOf_104 C O X (lv_sub hl [] rfl) hF
  · rw [if_neg h_z] at hF
    exact bX10_valueOf_92 C O (hk_k1 : xk k1 = 9) X (lv_sub hl [0, 1] rfl) hF
noncomputable def fX10_valueOf_b87 (N : Nat) (t0 : Int32) (S : gS) : Option (Int32 × gS) := some (t0, S)
theorem bX10_valueOf_87 {N : Nat} {t0 : Int32} {S : gS} {H : Heap} {locs : List Loc} {ls : Array Slot} {o : Int32 × gS} (C : gC p s m args meth c cX10_valueOf 4 RX10 ((some .int)) D (xtys cI cB cZ cQ) xord g Am) (O : xO g cI cB cZ cQ Am) (X : gX D (xcell g cI cB cZ cQ) xord g S s H locs) (hl : lv_has ls 4 []) (hF : fX10_valueOf_b87 N t0 S = some o) : W p l e (rmd 0) s m args below meth c H locs 0 0 (gE below args s D (xtys cI cB cZ cQ) (xcell g cI cB cZ cQ) xord g (some (.int o.1)) o.2) (F0 m 87 ls [.int t0]) := by
  unfold fX10_valueOf_b87 at hF
  cases hF
  exact g_iret C X dX10_valueOf_87
noncomputable def fX10_valueOf_b86 (N : Nat) (S : gS) : Option (Int32 × gS) := fX10_valueOf_b87 N 0 S
theorem bX10_valueOf_86 {N : Nat} {S : gS} {H : Heap} {locs : List Loc} {ls : Array Slot} {o : Int32 × gS} (C : gC p s m args meth c cX10_valueOf 4 RX10 ((some .int)) D (xtys cI cB cZ cQ) xord g Am) (O : xO g cI cB cZ cQ Am) (X : gX D (xcell g cI cB cZ cQ) xord g S s H locs) (hl : lv_has ls 4 []) (hF : fX10_valueOf_b86 N S = some o) : W p l e (rmd 0) s m args below meth c H locs 0 0 (gE below args s D (xtys cI cB cZ cQ) (xcell g cI cB cZ cQ) xord g (some (.int o.1)) o.2) (F0 m 86 ls []) := by
  unfold fX10_valueOf_b86 at hF
  refine lv_iconst (v := 0) C.1.1 C.1.2.1 dX10_valueOf_86 (by decide) ?_
  exact bX10_valueOf_87 C O X (lv_sub hl [] rfl) hF
noncomputable def fX10_valueOf_b74 (N : Nat) (k1 : Nat) (S : gS) : Option (Int32 × gS) := chk (inb (S 51 4) 8) (fX10_valueOf_b87 N (S (k1 + 1) (Int32.toNatClampNeg (S 51 4))) S)
theorem bX10_valueOf_74 {N : Nat} {k1 : Nat} {S : gS} {H : Heap} {locs : List Loc} {ls : Array Slot} {o : Int32 × gS} (C : gC p s m args meth c cX10_valueOf 4 RX10 ((some .int)) D (xtys cI cB cZ cQ) xord g Am) (O : xO g cI cB cZ cQ Am) (hk_k1 : xk k1 = 9) (X : gX D (xcell g cI cB cZ cQ) xord g S s H locs) (hl : lv_has ls 4 [(0, .ref (g 51)), (1, .ref (g k1))]) (hF : fX10_valueOf_b74 N k1 S = some o) : W p l e (rmd 0) s m args below meth c H locs 0 0 (gE below args s D (xtys cI cB cZ cQ) (xcell g cI cB cZ cQ) xord g (some (.int o.1)) o.2) (F0 m 74 ls []) := by
  unfold fX10_valueOf_b74 at hF
  refine lv_aload_n C.1.1 C.1.2.1 dX10_valueOf_74 rfl (lv_at hl 1 rfl) ?_
  refine xg_X10_114 C O X (k := k1) hk_k1 (j := k1 + 1) rfl dX10_valueOf_75 ?_
  refine lv_aload_n C.1.1 C.1.2.1 dX10_valueOf_78 rfl (lv_at hl 0 rfl) ?_
  refine xg_X10_24 C O X (k := 51) rfl dX10_valueOf_79 ?_
  obtain ⟨h_1, hF⟩ := chk_some hF
  refine x_rI C X (k := k1 + 1) (xs_9_1 hk_k1).1 (n := 8) (xs_9_1 hk_k1).2  (inb_vp h_1) rfl dX10_valueOf_82 ?_
  refine lv_goto (tgt := 87) C.1.1 C.1.2.1 dX10_valueOf_83 (by decide) ?_
  exact bX10_valueOf_87 C O X (lv_sub hl [] rfl) hF
noncomputable def fX10_valueOf_b70 (N : Nat) (k1 : Nat) (x3 : Int32) (S : gS) : Option (Int32 × gS) := if x3 = 0 then fX10_valueOf_b86 N S else fX10_valueOf_b74 N k1 S
theorem bX10_valueOf_70 {N : Nat} {k1 : Nat} {x3 : Int32} {S : gS} {H : Heap} {locs : List Loc} {ls : Array Slot} {o : Int32 × gS} (C : gC p s m args meth c cX10_valueOf 4 RX10 ((some .int)) D (xtys cI cB cZ cQ) xord g Am) (O : xO g cI cB cZ cQ Am) (hk_k1 : xk k1 = 9) (X : gX D (xcell g cI cB cZ cQ) xord g S s H locs) (hl : lv_has ls 4 [(0, .ref (g 51)), (1, .ref (g k1)), (3, .int x3)]) (hF : fX10_valueOf_b70 N k1 x3 S = some o) : W p l e (rmd 0) s m args below meth c H locs 0 0 (gE below args s D (xtys cI cB cZ cQ) (xcell g cI cB cZ cQ) xord g (some (.int o.1)) o.2) (F0 m 70 ls []) := by
  unfold fX10_valueOf_b70 at hF
  refine lv_iload_n C.1.1 C.1.2.1 dX10_valueOf_70 rfl (lv_at hl 2 rfl) ?_
  refine lv_if_eq (tgt := 86) C.1.1 C.1.2.1 dX10_valueOf_71 (by decide) (fun h_z => ?_) (fun h_z => ?_)
  · rw [if_pos h_z] at hF
    exact bX10_valueOf_86 C O X (lv_sub hl [] rfl) hF
  · rw [if_neg h_z] at hF
    exact bX10_valueOf_74 C O (hk_k1 : xk k1 = 9) X (lv_sub hl [0, 1] rfl) hF
noncomputable def fX10_valueOf_b65 (N : Nat) (S : gS) : Option (Int32 × gS) := some (S 51 2, S)
theorem bX10_valueOf_65 {N : Nat} {S : gS} {H : Heap} {locs : List Loc} {ls : Array Slot} {o : Int32 × gS} (C : gC p s m args meth c cX10_valueOf 4 RX10 ((some .int)) D (xtys cI cB cZ cQ) xord g Am) (O : xO g cI cB cZ cQ Am) (X : gX D (xcell g cI cB cZ cQ) xord g S s H locs) (hl : lv_has ls 4 [(0, .ref (g 51))]) (hF : fX10_valueOf_b65 N S = some o) : W p l e (rmd 0) s m args below meth c H locs 0 0 (gE below args s D (xtys cI cB cZ cQ) (xcell g cI cB cZ cQ) xord g (some (.int o.1)) o.2) (F0 m 65 ls []) := by
  unfold fX10_valueOf_b65 at hF
  refine lv_aload_n C.1.1 C.1.2.1 dX10_valueOf_65 rfl (lv_at hl 0 rfl) ?_
  refine xg_X10_18 C O X (k := 51) rfl dX10_valueOf_66 ?_
  cases hF
  exact g_iret C X dX10_valueOf_69
noncomputable def fX10_valueOf_b60 (N : Nat) (S : gS) : Option (Int32 × gS) := some (S 51 1, S)
theorem bX10_valueOf_60 {N : Nat} {S : gS} {H : Heap} {locs : List Loc} {ls : Array Slot} {o : Int32 × gS} (C : gC p s m args meth c cX10_valueOf 4 RX10 ((some .int)) D (xtys cI cB cZ cQ) xord g Am) (O : xO g cI cB cZ cQ Am) (X : gX D (xcell g cI cB cZ cQ) xord g S s H locs) (hl : lv_has ls 4 [(0, .ref (g 51))]) (hF : fX10_valueOf_b60 N S = some o) : W p l e (rmd 0) s m args below meth c H locs 0 0 (gE below args s D (xtys cI cB cZ cQ) (xcell g cI cB cZ cQ) xord g (some (.int o.1)) o.2) (F0 m 60 ls []) := by
  unfold fX10_valueOf_b60 at hF
  refine lv_aload_n C.1.1 C.1.2.1 dX10_valueOf_60 rfl (lv_at hl 0 rfl) ?_
  refine xg_X10_15 C O X (k := 51) rfl dX10_valueOf_61 ?_
  cases hF
  exact g_iret C X dX10_valueOf_64
noncomputable def fX10_valueOf_b21 (N : Nat) (k1 : Nat) (x2 : Int32) (t0 : Int32) (S : gS) : Option (Int32 × gS) := if x2 = 10000 then fX10_valueOf_b60 N S else if x2 = 10001 then fX10_valueOf_b65 N S else if x2 = 10002 then fX10_valueOf_b70 N k1 t0 S else if x2 = 10003 then fX10_valueOf_b88 N k1 t0 S else if x2 = 10004 then fX10_valueOf_b106 N S else if x2 = 10005 then fX10_valueOf_b111 N S else fX10_valueOf_b116 N S
theorem bX10_valueOf_21 {N : Nat} {k1 : Nat} {x2 : Int32} {t0 : Int32} {S : gS} {H : Heap} {locs : List Loc} {ls : Array Slot} {o : Int32 × gS} (C : gC p s m args meth c cX10_valueOf 4 RX10 ((some .int)) D (xtys cI cB cZ cQ) xord g Am) (O : xO g cI cB cZ cQ Am) (hk_k1 : xk k1 = 9) (X : gX D (xcell g cI cB cZ cQ) xord g S s H locs) (hl : lv_has ls 4 [(0, .ref (g 51)), (1, .ref (g k1)), (2, .int x2)]) (hF : fX10_valueOf_b21 N k1 x2 t0 S = some o) : W p l e (rmd 0) s m args below meth c H locs 0 0 (gE below args s D (xtys cI cB cZ cQ) (xcell g cI cB cZ cQ) xord g (some (.int o.1)) o.2) (F0 m 21 ls [.int t0]) := by
  unfold fX10_valueOf_b21 at hF
  refine lv_istore_n (lv' := [(3, .int t0), (0, .ref (g 51)), (1, .ref (g k1)), (2, .int x2)]) C.1.1 C.1.2.1 dX10_valueOf_21 rfl hl (by decide) rfl (fun ls hl => ?_)
  refine lv_iload_n C.1.1 C.1.2.1 dX10_valueOf_22 rfl (lv_at hl 3 rfl) ?_
  by_cases hz_10000 : x2 = 10000
  · rw [if_pos hz_10000] at hF
    refine lv_tableIn (off := 37) (tgt := 60) C.1.1 C.1.2.1 dX10_valueOf_23 (by rw [hz_10000]; decide) (by rw [hz_10000]; decide) (by rw [hz_10000]; decide) (by decide) ?_
    exact bX10_valueOf_60 C O X (lv_sub hl [1] rfl) hF
  rw [if_neg hz_10000] at hF
  by_cases hz_10001 : x2 = 10001
  · rw [if_pos hz_10001] at hF
    refine lv_tableIn (off := 42) (tgt := 65) C.1.1 C.1.2.1 dX10_valueOf_23 (by rw [hz_10001]; decide) (by rw [hz_10001]; decide) (by rw [hz_10001]; decide) (by decide) ?_
    exact bX10_valueOf_65 C O X (lv_sub hl [1] rfl) hF
  rw [if_neg hz_10001] at hF
  by_cases hz_10002 : x2 = 10002
  · rw [if_pos hz_10002] at hF
    refine lv_tableIn (off := 47) (tgt := 70) C.1.1 C.1.2.1 dX10_valueOf_23 (by rw [hz_10002]; decide) (by rw [hz_10002]; decide) (by rw [hz_10002]; decide) (by decide) ?_
    exact bX10_valueOf_70 C O (hk_k1 : xk k1 = 9) X (lv_sub hl [1, 2, 0] rfl) hF
  rw [if_neg hz_10002] at hF
  by_cases hz_10003 : x2 = 10003
  · rw [if_pos hz_10003] at hF
    refine lv_tableIn (off := 65) (tgt := 88) C.1.1 C.1.2.1 dX10_valueOf_23 (by rw [hz_10003]; decide) (by rw [hz_10003]; decide) (by rw [hz_10003]; decide) (by decide) ?_
    exact bX10_valueOf_88 C O (hk_k1 : xk k1 = 9) X (lv_sub hl [1, 2, 0] rfl) hF
  rw [if_neg hz_10003] at hF
  by_cases hz_10004 : x2 = 10004
  · rw [if_pos hz_10004] at hF
    refine lv_tableIn (off := 83) (tgt := 106) C.1.1 C.1.2.1 dX10_valueOf_23 (by rw [hz_10004]; decide) (by rw [hz_10004]; decide) (by rw [hz_10004]; decide) (by decide) ?_
    exact bX10_valueOf_106 C O X (lv_sub hl [1] rfl) hF
  rw [if_neg hz_10004] at hF
  by_cases hz_10005 : x2 = 10005
  · rw [if_pos hz_10005] at hF
    refine lv_tableIn (off := 88) (tgt := 111) C.1.1 C.1.2.1 dX10_valueOf_23 (by rw [hz_10005]; decide) (by rw [hz_10005]; decide) (by rw [hz_10005]; decide) (by decide) ?_
    exact bX10_valueOf_111 C O X (lv_sub hl [1] rfl) hF
  rw [if_neg hz_10005] at hF
  refine lv_tableOut (tgt := 116) C.1.1 C.1.2.1 dX10_valueOf_23 (g_tsw 10000 10005 _ ?_) (by decide) ?_
  · intro i hi1 hi2
    rcases (show i = 10000 ∨ i = 10001 ∨ i = 10002 ∨ i = 10003 ∨ i = 10004 ∨ i = 10005 by omega) with rfl | rfl | rfl | rfl | rfl | rfl
    · exact hz_10000
    · exact hz_10001
    · exact hz_10002
    · exact hz_10003
    · exact hz_10004
    · exact hz_10005
  exact bX10_valueOf_116 C O X (lv_sub hl [1] rfl) hF
noncomputable def fX10_valueOf_b20 (N : Nat) (k1 : Nat) (x2 : Int32) (S : gS) : Option (Int32 × gS) := fX10_valueOf_b21 N k1 x2 0 S
theorem bX10_valueOf_20 {N : Nat} {k1 : Nat} {x2 : Int32} {S : gS} {H : Heap} {locs : List Loc} {ls : Array Slot} {o : Int32 × gS} (C : gC p s m args meth c cX10_valueOf 4 RX10 ((some .int)) D (xtys cI cB cZ cQ) xord g Am) (O : xO g cI cB cZ cQ Am) (hk_k1 : xk k1 = 9) (X : gX D (xcell g cI cB cZ cQ) xord g S s H locs) (hl : lv_has ls 4 [(0, .ref (g 51)), (1, .ref (g k1)), (2, .int x2)]) (hF : fX10_valueOf_b20 N k1 x2 S = some o) : W p l e (rmd 0) s m args below meth c H locs 0 0 (gE below args s D (xtys cI cB cZ cQ) (xcell g cI cB cZ cQ) xord g (some (.int o.1)) o.2) (F0 m 20 ls []) := by
  unfold fX10_valueOf_b20 at hF
  refine lv_iconst (v := 0) C.1.1 C.1.2.1 dX10_valueOf_20 (by decide) ?_
  exact bX10_valueOf_21 C O (hk_k1 : xk k1 = 9) X (lv_sub hl [0, 1, 2] rfl) hF
noncomputable def fX10_valueOf_b16 (N : Nat) (k1 : Nat) (x2 : Int32) (S : gS) : Option (Int32 × gS) := fX10_valueOf_b21 N k1 x2 1 S
theorem bX10_valueOf_16 {N : Nat} {k1 : Nat} {x2 : Int32} {S : gS} {H : Heap} {locs : List Loc} {ls : Array Slot} {o : Int32 × gS} (C : gC p s m args meth c cX10_valueOf 4 RX10 ((some .int)) D (xtys cI cB cZ cQ) xord g Am) (O : xO g cI cB cZ cQ Am) (hk_k1 : xk k1 = 9) (X : gX D (xcell g cI cB cZ cQ) xord g S s H locs) (hl : lv_has ls 4 [(0, .ref (g 51)), (1, .ref (g k1)), (2, .int x2)]) (hF : fX10_valueOf_b16 N k1 x2 S = some o) : W p l e (rmd 0) s m args below meth c H locs 0 0 (gE below args s D (xtys cI cB cZ cQ) (xcell g cI cB cZ cQ) xord g (some (.int o.1)) o.2) (F0 m 16 ls []) := by
  unfold fX10_valueOf_b16 at hF
  refine lv_iconst (v := 1) C.1.1 C.1.2.1 dX10_valueOf_16 (by decide) ?_
  refine lv_goto (tgt := 21) C.1.1 C.1.2.1 dX10_valueOf_17 (by decide) ?_
  exact bX10_valueOf_21 C O (hk_k1 : xk k1 = 9) X (lv_sub hl [0, 1, 2] rfl) hF
noncomputable def fX10_valueOf_b7 (N : Nat) (k1 : Nat) (x2 : Int32) (S : gS) : Option (Int32 × gS) := if 8 ≤ (S 51 4) then fX10_valueOf_b20 N k1 x2 S else fX10_valueOf_b16 N k1 x2 S
theorem bX10_valueOf_7 {N : Nat} {k1 : Nat} {x2 : Int32} {S : gS} {H : Heap} {locs : List Loc} {ls : Array Slot} {o : Int32 × gS} (C : gC p s m args meth c cX10_valueOf 4 RX10 ((some .int)) D (xtys cI cB cZ cQ) xord g Am) (O : xO g cI cB cZ cQ Am) (hk_k1 : xk k1 = 9) (X : gX D (xcell g cI cB cZ cQ) xord g S s H locs) (hl : lv_has ls 4 [(0, .ref (g 51)), (1, .ref (g k1)), (2, .int x2)]) (hF : fX10_valueOf_b7 N k1 x2 S = some o) : W p l e (rmd 0) s m args below meth c H locs 0 0 (gE below args s D (xtys cI cB cZ cQ) (xcell g cI cB cZ cQ) xord g (some (.int o.1)) o.2) (F0 m 7 ls []) := by
  unfold fX10_valueOf_b7 at hF
  refine lv_aload_n C.1.1 C.1.2.1 dX10_valueOf_7 rfl (lv_at hl 0 rfl) ?_
  refine xg_X10_24 C O X (k := 51) rfl dX10_valueOf_8 ?_
  refine lv_bipush (v := 8) C.1.1 C.1.2.1 dX10_valueOf_11 (by decide) ?_
  refine lv_icmp_ge (tgt := 20) C.1.1 C.1.2.1 dX10_valueOf_13 (by decide) (fun h_z => ?_) (fun h_z => ?_)
  · rw [if_pos h_z] at hF
    exact bX10_valueOf_20 C O (hk_k1 : xk k1 = 9) X (lv_sub hl [0, 1, 2] rfl) hF
  · rw [if_neg h_z] at hF
    exact bX10_valueOf_16 C O (hk_k1 : xk k1 = 9) X (lv_sub hl [0, 1, 2] rfl) hF
noncomputable def fX10_valueOf_b0 (N : Nat) (k1 : Nat) (x2 : Int32) (S : gS) : Option (Int32 × gS) := if (S 51 4) < 0 then fX10_valueOf_b20 N k1 x2 S else fX10_valueOf_b7 N k1 x2 S
theorem bX10_valueOf_0 {N : Nat} {k1 : Nat} {x2 : Int32} {S : gS} {H : Heap} {locs : List Loc} {ls : Array Slot} {o : Int32 × gS} (C : gC p s m args meth c cX10_valueOf 4 RX10 ((some .int)) D (xtys cI cB cZ cQ) xord g Am) (O : xO g cI cB cZ cQ Am) (hk_k1 : xk k1 = 9) (X : gX D (xcell g cI cB cZ cQ) xord g S s H locs) (hl : lv_has ls 4 [(0, .ref (g 51)), (1, .ref (g k1)), (2, .int x2)]) (hF : fX10_valueOf_b0 N k1 x2 S = some o) : W p l e (rmd 0) s m args below meth c H locs 0 0 (gE below args s D (xtys cI cB cZ cQ) (xcell g cI cB cZ cQ) xord g (some (.int o.1)) o.2) (F0 m 0 ls []) := by
  unfold fX10_valueOf_b0 at hF
  refine lv_aload_n C.1.1 C.1.2.1 dX10_valueOf_0 rfl (lv_at hl 0 rfl) ?_
  refine xg_X10_24 C O X (k := 51) rfl dX10_valueOf_1 ?_
  refine lv_if_lt (tgt := 20) C.1.1 C.1.2.1 dX10_valueOf_4 (by decide) (fun h_z => ?_) (fun h_z => ?_)
  · rw [if_pos h_z] at hF
    exact bX10_valueOf_20 C O (hk_k1 : xk k1 = 9) X (lv_sub hl [0, 1, 2] rfl) hF
  · rw [if_neg h_z] at hF
    exact bX10_valueOf_7 C O (hk_k1 : xk k1 = 9) X (lv_sub hl [0, 1, 2] rfl) hF
noncomputable def fX10_valueOf (N : Nat) (k1 : Nat) (x2 : Int32) (S : gS) : Option (Int32 × gS) := fX10_valueOf_b0 N k1 x2 S
theorem kX10_valueOf {l : Launch} {D : va_G} {g : Nat → Nat} {cI cB cZ cQ : ClassId} {Am : (Nat → Prop) → State → Heap → Prop} (O : xO g cI cB cZ cQ Am) (P : gAm Am) (N : Nat) (k1 : Nat) (x2 : Int32) (hk_k1 : xk k1 = 9) (S : gS) (o : Int32 × gS) (hF : fX10_valueOf N k1 x2 S = some o) : gM l yX10_valueOf cX10_valueOf 4 ((some .int)) 0 D (xtys cI cB cZ cQ) (xcell g cI cB cZ cQ) xord g Am [.ref (g 51), .ref (g k1), .int x2] S (some (.int o.1)) o.2 :=
  gM_of O.1 P (by decide) (Nat.le_of_ble_eq_true rfl) (fun p e s m args below meth c ls C X hl => bX10_valueOf_0 C O hk_k1 X (lv_sub hl [0, 1, 2] rfl) hF)
-- X11.feed
noncomputable def fX11_feed_b25 (N : Nat) (x1 : Int32) (x2 : Int32) (x3 : Int32) (x4 : Int32) (x5 : Int32) (S : gS) : Option (Int32 × gS) := bnd (fX8_add N x1 S) fun q1 => (bnd (fX8_add N x2 q1.2) fun q2 => (bnd (fX8_add N x3 q2.2) fun q3 => (bnd (fX8_add N x4 q3.2) fun q4 => (bnd (fX8_add N x5 q4.2) fun q5 => (some (q5.2 2 1, q5.2))))))
theorem bX11_feed_25 {N : Nat} {x1 : Int32} {x2 : Int32} {x3 : Int32} {x4 : Int32} {x5 : Int32} {S : gS} {H : Heap} {locs : List Loc} {ls : Array Slot} {o : Int32 × gS} (C : gC p s m args meth c cX11_feed 7 RX11 ((some .int)) D (xtys cI cB cZ cQ) xord g Am) (O : xO g cI cB cZ cQ Am) (X : gX D (xcell g cI cB cZ cQ) xord g S s H locs) (hl : lv_has ls 7 [(1, .int x1), (2, .int x2), (3, .int x3), (4, .int x4), (5, .int x5), (6, .ref (g 2))]) (hF : fX11_feed_b25 N x1 x2 x3 x4 x5 S = some o) : W p l e (rmd 1) s m args below meth c H locs 0 0 (gE below args s D (xtys cI cB cZ cQ) (xcell g cI cB cZ cQ) xord g (some (.int o.1)) o.2) (F0 m 25 ls []) := by
  unfold fX11_feed_b25 at hF
  refine lv_aload C.1.1 C.1.2.1 dX11_feed_25 (lv_at hl 5 rfl) ?_
  refine lv_iload_n C.1.1 C.1.2.1 dX11_feed_27 rfl (lv_at hl 0 rfl) ?_
  obtain ⟨q1, hq1, hF⟩ := bnd_some hF
  refine x_callV C X (k := 2) xv_X11_78 (rfl : xk 2 = 8) rfl rfl (by decide) (kX8_add O C.2.2.2.2.1 N x1 S q1 hq1) (Nat.le_of_ble_eq_true rfl) (Nat.le_of_ble_eq_true rfl) (Nat.le_of_ble_eq_true rfl) (Nat.le_of_ble_eq_true rfl) rfl hl.1 rfl (Nat.le_of_ble_eq_true rfl) dX11_feed_28 (fun H locs X => ?_)
  refine lv_aload C.1.1 C.1.2.1 dX11_feed_31 (lv_at hl 5 rfl) ?_
  refine lv_iload_n C.1.1 C.1.2.1 dX11_feed_33 rfl (lv_at hl 1 rfl) ?_
  obtain ⟨q2, hq2, hF⟩ := bnd_some hF
  refine x_callV C X (k := 2) xv_X11_78 (rfl : xk 2 = 8) rfl rfl (by decide) (kX8_add O C.2.2.2.2.1 N x2 q1.2 q2 hq2) (Nat.le_of_ble_eq_true rfl) (Nat.le_of_ble_eq_true rfl) (Nat.le_of_ble_eq_true rfl) (Nat.le_of_ble_eq_true rfl) rfl hl.1 rfl (Nat.le_of_ble_eq_true rfl) dX11_feed_34 (fun H locs X => ?_)
  refine lv_aload C.1.1 C.1.2.1 dX11_feed_37 (lv_at hl 5 rfl) ?_
  refine lv_iload_n C.1.1 C.1.2.1 dX11_feed_39 rfl (lv_at hl 2 rfl) ?_
  obtain ⟨q3, hq3, hF⟩ := bnd_some hF
  refine x_callV C X (k := 2) xv_X11_78 (rfl : xk 2 = 8) rfl rfl (by decide) (kX8_add O C.2.2.2.2.1 N x3 q2.2 q3 hq3) (Nat.le_of_ble_eq_true rfl) (Nat.le_of_ble_eq_true rfl) (Nat.le_of_ble_eq_true rfl) (Nat.le_of_ble_eq_true rfl) rfl hl.1 rfl (Nat.le_of_ble_eq_true rfl) dX11_feed_40 (fun H locs X => ?_)
  refine lv_aload C.1.1 C.1.2.1 dX11_feed_43 (lv_at hl 5 rfl) ?_
  refine lv_iload C.1.1 C.1.2.1 dX11_feed_45 (lv_at hl 3 rfl) ?_
  obtain ⟨q4, hq4, hF⟩ := bnd_some hF
  refine x_callV C X (k := 2) xv_X11_78 (rfl : xk 2 = 8) rfl rfl (by decide) (kX8_add O C.2.2.2.2.1 N x4 q3.2 q4 hq4) (Nat.le_of_ble_eq_true rfl) (Nat.le_of_ble_eq_true rfl) (Nat.le_of_ble_eq_true rfl) (Nat.le_of_ble_eq_true rfl) rfl hl.1 rfl (Nat.le_of_ble_eq_true rfl) dX11_feed_47 (fun H locs X => ?_)
  refine lv_aload C.1.1 C.1.2.1 dX11_feed_50 (lv_at hl 5 rfl) ?_
  refine lv_iload C.1.1 C.1.2.1 dX11_feed_52 (lv_at hl 4 rfl) ?_
  obtain ⟨q5, hq5, hF⟩ := bnd_some hF
  refine x_callV C X (k := 2) xv_X11_78 (rfl : xk 2 = 8) rfl rfl (by decide) (kX8_add O C.2.2.2.2.1 N x5 q4.2 q5 hq5) (Nat.le_of_ble_eq_true rfl) (Nat.le_of_ble_eq_true rfl) (Nat.le_of_ble_eq_true rfl) (Nat.le_of_ble_eq_true rfl) rfl hl.1 rfl (Nat.le_of_ble_eq_true rfl) dX11_feed_54 (fun H locs X => ?_)
  refine lv_aload C.1.1 C.1.2.1 dX11_feed_57 (lv_at hl 5 rfl) ?_
  refine xg_X11_73 C O X (k := 2) rfl dX11_feed_59 ?_
  cases hF
  exact g_iret C X dX11_feed_62
noncomputable def fX11_feed_b23 (N : Nat) (S : gS) : Option (Int32 × gS) := some ((-1), S)
theorem bX11_feed_23 {N : Nat} {S : gS} {H : Heap} {locs : List Loc} {ls : Array Slot} {o : Int32 × gS} (C : gC p s m args meth c cX11_feed 7 RX11 ((some .int)) D (xtys cI cB cZ cQ) xord g Am) (O : xO g cI cB cZ cQ Am) (X : gX D (xcell g cI cB cZ cQ) xord g S s H locs) (hl : lv_has ls 7 []) (hF : fX11_feed_b23 N S = some o) : W p l e (rmd 1) s m args below meth c H locs 0 0 (gE below args s D (xtys cI cB cZ cQ) (xcell g cI cB cZ cQ) xord g (some (.int o.1)) o.2) (F0 m 23 ls []) := by
  unfold fX11_feed_b23 at hF
  refine lv_iconst (v := (-1)) C.1.1 C.1.2.1 dX11_feed_23 (by decide) ?_
  cases hF
  exact g_iret C X dX11_feed_24
noncomputable def fX11_feed_b0 (N : Nat) (x1 : Int32) (x2 : Int32) (x3 : Int32) (x4 : Int32) (x5 : Int32) (S : gS) : Option (Int32 × gS) := if (((S 2 1) + 20 : Int32)) ≤ 700 then fX11_feed_b25 N x1 x2 x3 x4 x5 S else fX11_feed_b23 N S
theorem bX11_feed_0 {N : Nat} {x1 : Int32} {x2 : Int32} {x3 : Int32} {x4 : Int32} {x5 : Int32} {S : gS} {H : Heap} {locs : List Loc} {ls : Array Slot} {o : Int32 × gS} (C : gC p s m args meth c cX11_feed 7 RX11 ((some .int)) D (xtys cI cB cZ cQ) xord g Am) (O : xO g cI cB cZ cQ Am) (X : gX D (xcell g cI cB cZ cQ) xord g S s H locs) (hl : lv_has ls 7 [(0, .ref (g 0)), (1, .int x1), (2, .int x2), (3, .int x3), (4, .int x4), (5, .int x5)]) (hF : fX11_feed_b0 N x1 x2 x3 x4 x5 S = some o) : W p l e (rmd 1) s m args below meth c H locs 0 0 (gE below args s D (xtys cI cB cZ cQ) (xcell g cI cB cZ cQ) xord g (some (.int o.1)) o.2) (F0 m 0 ls []) := by
  unfold fX11_feed_b0 at hF
  refine lv_aload_n C.1.1 C.1.2.1 dX11_feed_0 rfl (lv_at hl 0 rfl) ?_
  refine xg_X11_12 C O X (k := 0) rfl (j := 1) rfl dX11_feed_1 ?_
  refine xg_X11_69 C O X (k := 1) rfl (j := 2) rfl dX11_feed_4 ?_
  refine lv_astore (lv' := [(6, .ref (g 2)), (0, .ref (g 0)), (1, .int x1), (2, .int x2), (3, .int x3), (4, .int x4), (5, .int x5)]) C.1.1 C.1.2.1 dX11_feed_7 hl (by decide) rfl (fun ls hl => ?_)
  refine lv_aload C.1.1 C.1.2.1 dX11_feed_9 (lv_at hl 0 rfl) ?_
  refine xg_X11_73 C O X (k := 2) rfl dX11_feed_11 ?_
  refine lv_bipush (v := 20) C.1.1 C.1.2.1 dX11_feed_14 (by decide) ?_
  refine lv_iadd C.1.1 C.1.2.1 dX11_feed_16 ?_
  refine lv_sipush (v := 700) C.1.1 C.1.2.1 dX11_feed_17 (by decide) ?_
  refine lv_icmp_le (tgt := 25) C.1.1 C.1.2.1 dX11_feed_20 (by decide) (fun h_z => ?_) (fun h_z => ?_)
  · rw [if_pos h_z] at hF
    exact bX11_feed_25 C O X (lv_sub hl [2, 3, 4, 5, 6, 0] rfl) hF
  · rw [if_neg h_z] at hF
    exact bX11_feed_23 C O X (lv_sub hl [] rfl) hF
noncomputable def fX11_feed (N : Nat) (x1 : Int32) (x2 : Int32) (x3 : Int32) (x4 : Int32) (x5 : Int32) (S : gS) : Option (Int32 × gS) := fX11_feed_b0 N x1 x2 x3 x4 x5 S
theorem kX11_feed {l : Launch} {D : va_G} {g : Nat → Nat} {cI cB cZ cQ : ClassId} {Am : (Nat → Prop) → State → Heap → Prop} (O : xO g cI cB cZ cQ Am) (P : gAm Am) (N : Nat) (x1 : Int32) (x2 : Int32) (x3 : Int32) (x4 : Int32) (x5 : Int32) (S : gS) (o : Int32 × gS) (hF : fX11_feed N x1 x2 x3 x4 x5 S = some o) : gM l yX11_feed cX11_feed 7 ((some .int)) 1 D (xtys cI cB cZ cQ) (xcell g cI cB cZ cQ) xord g Am [.ref (g 0), .int x1, .int x2, .int x3, .int x4, .int x5] S (some (.int o.1)) o.2 :=
  gM_of O.1 P (by decide) (Nat.le_of_ble_eq_true rfl) (fun p e s m args below meth c ls C X hl => bX11_feed_0 C O X (lv_sub hl [0, 1, 2, 3, 4, 5] rfl) hF)
-- X11.fault
noncomputable def fX11_fault_b0 (N : Nat) (S : gS) : Option (Int32 × gS) := some (S 1 3, S)
theorem bX11_fault_0 {N : Nat} {S : gS} {H : Heap} {locs : List Loc} {ls : Array Slot} {o : Int32 × gS} (C : gC p s m args meth c cX11_fault 1 RX11 ((some .int)) D (xtys cI cB cZ cQ) xord g Am) (O : xO g cI cB cZ cQ Am) (X : gX D (xcell g cI cB cZ cQ) xord g S s H locs) (hl : lv_has ls 1 [(0, .ref (g 0))]) (hF : fX11_fault_b0 N S = some o) : W p l e (rmd 0) s m args below meth c H locs 0 0 (gE below args s D (xtys cI cB cZ cQ) (xcell g cI cB cZ cQ) xord g (some (.int o.1)) o.2) (F0 m 0 ls []) := by
  unfold fX11_fault_b0 at hF
  refine lv_aload_n C.1.1 C.1.2.1 dX11_fault_0 rfl (lv_at hl 0 rfl) ?_
  refine xg_X11_12 C O X (k := 0) rfl (j := 1) rfl dX11_fault_1 ?_
  refine xg_X11_102 C O X (k := 1) rfl dX11_fault_4 ?_
  cases hF
  exact g_iret C X dX11_fault_7
noncomputable def fX11_fault (N : Nat) (S : gS) : Option (Int32 × gS) := fX11_fault_b0 N S
theorem kX11_fault {l : Launch} {D : va_G} {g : Nat → Nat} {cI cB cZ cQ : ClassId} {Am : (Nat → Prop) → State → Heap → Prop} (O : xO g cI cB cZ cQ Am) (P : gAm Am) (N : Nat) (S : gS) (o : Int32 × gS) (hF : fX11_fault N S = some o) : gM l yX11_fault cX11_fault 1 ((some .int)) 0 D (xtys cI cB cZ cQ) (xcell g cI cB cZ cQ) xord g Am [.ref (g 0)] S (some (.int o.1)) o.2 :=
  gM_of O.1 P (by decide) (Nat.le_of_ble_eq_true rfl) (fun p e s m args below meth c ls C X hl => bX11_fault_0 C O X (lv_sub hl [0] rfl) hF)
-- X11.forget
noncomputable def fX11_forget_b0 (N : Nat) (S : gS) : Option (Int32 × gS) := lt (sU S 28 3 0) fun S1 => (some (0, S1))
theorem bX11_forget_0 {N : Nat} {S : gS} {H : Heap} {locs : List Loc} {ls : Array Slot} {o : Int32 × gS} (C : gC p s m args meth c cX11_forget 1 RX11 none D (xtys cI cB cZ cQ) xord g Am) (O : xO g cI cB cZ cQ Am) (X : gX D (xcell g cI cB cZ cQ) xord g S s H locs) (hl : lv_has ls 1 [(0, .ref (g 0))]) (hF : fX11_forget_b0 N S = some o) : W p l e (rmd 0) s m args below meth c H locs 0 0 (gE below args s D (xtys cI cB cZ cQ) (xcell g cI cB cZ cQ) xord g none o.2) (F0 m 0 ls []) := by
  unfold fX11_forget_b0 at hF
  refine lv_aload_n C.1.1 C.1.2.1 dX11_forget_0 rfl (lv_at hl 0 rfl) ?_
  refine xg_X11_19 C O X (k := 0) rfl (j := 20) rfl dX11_forget_1 ?_
  refine xg_X11_146 C O X (k := 20) rfl (j := 28) rfl dX11_forget_4 ?_
  refine lv_iconst (v := 0) C.1.1 C.1.2.1 dX11_forget_7 (by decide) ?_
  obtain ⟨S1, eS1, hF⟩ := lt_some hF
  refine xp_X11_150 C O X (k := 28) rfl eS1 dX11_forget_8 (fun H locs X => ?_)
  cases hF
  exact g_vret C X dX11_forget_11
noncomputable def fX11_forget (N : Nat) (S : gS) : Option (Int32 × gS) := fX11_forget_b0 N S
theorem kX11_forget {l : Launch} {D : va_G} {g : Nat → Nat} {cI cB cZ cQ : ClassId} {Am : (Nat → Prop) → State → Heap → Prop} (O : xO g cI cB cZ cQ Am) (P : gAm Am) (N : Nat) (S : gS) (o : Int32 × gS) (hF : fX11_forget N S = some o) : gM l yX11_forget cX11_forget 1 none 0 D (xtys cI cB cZ cQ) (xcell g cI cB cZ cQ) xord g Am [.ref (g 0)] S none o.2 :=
  gM_of O.1 P (by decide) (Nat.le_of_ble_eq_true rfl) (fun p e s m args below meth c ls C X hl => bX11_forget_0 C O X (lv_sub hl [0] rfl) hF)
end
end
